set_option maxHeartbeats 4000000
set_option maxRecDepth 100000
-- ChequeredCloth$Judge.setMoment
theorem dX4_setMoment_0 : decode cX4_setMoment 0 = .ok (.aload_n 0, 1) := by decide +kernel
theorem dX4_setMoment_1 : decode cX4_setMoment 1 = .ok (.iload_n 1, 1) := by decide +kernel
theorem dX4_setMoment_2 : decode cX4_setMoment 2 = .ok (.putfield 13, 3) := by decide +kernel
theorem dX4_setMoment_5 : decode cX4_setMoment 5 = .ok (.aload_n 0, 1) := by decide +kernel
theorem dX4_setMoment_6 : decode cX4_setMoment 6 = .ok (.iload_n 2, 1) := by decide +kernel
theorem dX4_setMoment_7 : decode cX4_setMoment 7 = .ok (.putfield 17, 3) := by decide +kernel
theorem dX4_setMoment_10 : decode cX4_setMoment 10 = .ok (.aload_n 0, 1) := by decide +kernel
theorem dX4_setMoment_11 : decode cX4_setMoment 11 = .ok (.ldc2_w 20, 3) := by decide +kernel
theorem dX4_setMoment_14 : decode cX4_setMoment 14 = .ok (.ldc2_w 22, 3) := by decide +kernel
theorem dX4_setMoment_17 : decode cX4_setMoment 17 = .ok (.lload_n 3, 1) := by decide +kernel
theorem dX4_setMoment_18 : decode cX4_setMoment 18 = .ok (.invokestatic 24, 3) := by decide +kernel
theorem dX4_setMoment_21 : decode cX4_setMoment 21 = .ok (.invokestatic 30, 3) := by decide +kernel
theorem dX4_setMoment_24 : decode cX4_setMoment 24 = .ok (.putfield 33, 3) := by decide +kernel
theorem dX4_setMoment_27 : decode cX4_setMoment 27 = .ok (.aload_n 0, 1) := by decide +kernel
theorem dX4_setMoment_28 : decode cX4_setMoment 28 = .ok (.ldc2_w 20, 3) := by decide +kernel
theorem dX4_setMoment_31 : decode cX4_setMoment 31 = .ok (.ldc2_w 22, 3) := by decide +kernel
theorem dX4_setMoment_34 : decode cX4_setMoment 34 = .ok (.lload 5, 2) := by decide +kernel
theorem dX4_setMoment_36 : decode cX4_setMoment 36 = .ok (.invokestatic 24, 3) := by decide +kernel
theorem dX4_setMoment_39 : decode cX4_setMoment 39 = .ok (.invokestatic 30, 3) := by decide +kernel
theorem dX4_setMoment_42 : decode cX4_setMoment 42 = .ok (.putfield 37, 3) := by decide +kernel
theorem dX4_setMoment_45 : decode cX4_setMoment 45 = .ok (.return_, 1) := by decide +kernel
theorem zy_X4_setMoment : zYv yX4_setMoment cX4_setMoment 7 none 4 := ⟨zw_999, zw_1000, zw_9, zw_1001, by decide, by decide, by decide⟩
theorem c_X4_setMoment_0 {C : zC} {I : Nat → Nat → Int32} {J : Nat → Nat → Int64} {Rr : Nat → Nat → Option Nat} {D : zD} (a1 : Int32) (a2 : Int32) (a3 : Int64) (a5 : Int64) (y_v_debt : Int64) (y_v_paid : Int64) (y_v_shire : Int32) (y_v_term : Int32) (E : zE C RX4 cX4_setMoment 7 none ({ frames := 1, cells := 0, slots := 0, locals := 31 } : Room)) (hQ : C.Q = zQv C ({ frames := 1, cells := 0, slots := 0, locals := 31 } : Room) ((va_up I 46 (va_up (va_up (I 46) 1 y_v_shire) 2 y_v_term)), (va_up J 46 (va_up (va_up (J 46) 3 y_v_debt) 4 y_v_paid)), Rr, D)) (v_debt : Int64) (v_paid : Int64) (v_shire : Int32) (v_term : Int32) (h : pJudge_setMoment a1 a2 a3 a5 v_debt v_paid v_shire v_term = some (y_v_debt, y_v_paid, y_v_shire, y_v_term)) : zB C (0, 0) 0 [(0, .ref (C.X.1 + 46)), (1, .int a1), (2, .int a2), (3, .long a3), (5, .long a5)] [] ((va_up I 46 (va_up (va_up (I 46) 1 v_shire) 2 v_term)), (va_up J 46 (va_up (va_up (J 46) 3 v_debt) 4 v_paid)), Rr, D) := by
  refine zb_aload_n E dX4_setMoment_0 0 rfl rfl ?_
  refine zb_iload_n E dX4_setMoment_1 1 rfl rfl ?_
  refine zb_put E 46 (by decide) (zF_46 C.X) rfl zin4 1 (by decide) zw_234 tyX4 tyX4_ok nmX4 rfl rfl rfl (I2 := (va_up I 46 (va_up (va_up (I 46) 1 a1) 2 v_term))) (J2 := (va_up J 46 (va_up (va_up (J 46) 3 v_debt) 4 v_paid))) ((zset4_1 C.X (va_up (va_up (I 46) 1 v_shire) 2 v_term) (va_up (va_up (J 46) 3 v_debt) 4 v_paid) a1).trans (congrArg (fun g => zf4 C.X g (va_up (va_up (J 46) 3 v_debt) 4 v_paid)) (zn2 (by decide : (2 : Nat) ≠ 1)))) (by rw [zflen4]; decide) (fun j hj => ⟨(zup_n hj).trans (zup_n hj).symm, rfl⟩) dX4_setMoment_2 ?_
  refine zb_aload_n E dX4_setMoment_5 0 rfl rfl ?_
  refine zb_iload_n E dX4_setMoment_6 2 rfl rfl ?_
  refine zb_put E 46 (by decide) (zF_46 C.X) rfl zin4 2 (by decide) zw_235 tyX4 tyX4_ok nmX4 rfl rfl rfl (I2 := (va_up I 46 (va_up (va_up (I 46) 1 a1) 2 a2))) (J2 := (va_up J 46 (va_up (va_up (J 46) 3 v_debt) 4 v_paid))) ((zset4_2 C.X (va_up (va_up (I 46) 1 a1) 2 v_term) (va_up (va_up (J 46) 3 v_debt) 4 v_paid) a2).trans (congrArg (fun g => zf4 C.X g (va_up (va_up (J 46) 3 v_debt) 4 v_paid)) zn1)) (by rw [zflen4]; decide) (fun j hj => ⟨(zup_n hj).trans (zup_n hj).symm, rfl⟩) dX4_setMoment_7 ?_
  refine zb_aload_n E dX4_setMoment_10 0 rfl rfl ?_
  refine zb_ldc2 E dX4_setMoment_11 (v := 1000000000) zw_1002 ?_
  refine zb_ldc2 E dX4_setMoment_14 (v := (-1000000000)) zw_1003 ?_
  refine zb_lload_n E dX4_setMoment_17 3 rfl rfl ?_
  refine zb_mmaxL E zYm_mmaxL zw_1004 (by decide) (by first | decide | simp [Value.category]) dX4_setMoment_18 ?_
  refine zb_mminL E zYm_mminL zw_1007 (by decide) (by first | decide | simp [Value.category]) dX4_setMoment_21 ?_
  refine zb_put E 46 (by decide) (zF_46 C.X) rfl zin4 3 (by decide) zw_236 tyX4 tyX4_ok nmX4 rfl rfl rfl (I2 := (va_up I 46 (va_up (va_up (I 46) 1 a1) 2 a2))) (J2 := (va_up J 46 (va_up (va_up (J 46) 3 (m_minL 1000000000 (m_maxL (-1000000000) a3))) 4 v_paid))) ((zset4_3 C.X (va_up (va_up (I 46) 1 a1) 2 a2) (va_up (va_up (J 46) 3 v_debt) 4 v_paid) (m_minL 1000000000 (m_maxL (-1000000000) a3))).trans (congrArg (fun g => zf4 C.X (va_up (va_up (I 46) 1 a1) 2 a2) g) (zn2 (by decide : (4 : Nat) ≠ 3)))) (by rw [zflen4]; decide) (fun j hj => ⟨rfl, (zup_n hj).trans (zup_n hj).symm⟩) dX4_setMoment_24 ?_
  refine zb_aload_n E dX4_setMoment_27 0 rfl rfl ?_
  refine zb_ldc2 E dX4_setMoment_28 (v := 1000000000) zw_1002 ?_
  refine zb_ldc2 E dX4_setMoment_31 (v := (-1000000000)) zw_1003 ?_
  refine zb_lload E dX4_setMoment_34 4 rfl ?_
  refine zb_mmaxL E zYm_mmaxL zw_1004 (by decide) (by first | decide | simp [Value.category]) dX4_setMoment_36 ?_
  refine zb_mminL E zYm_mminL zw_1007 (by decide) (by first | decide | simp [Value.category]) dX4_setMoment_39 ?_
  refine zb_put E 46 (by decide) (zF_46 C.X) rfl zin4 4 (by decide) zw_237 tyX4 tyX4_ok nmX4 rfl rfl rfl (I2 := (va_up I 46 (va_up (va_up (I 46) 1 a1) 2 a2))) (J2 := (va_up J 46 (va_up (va_up (J 46) 3 (m_minL 1000000000 (m_maxL (-1000000000) a3))) 4 (m_minL 1000000000 (m_maxL (-1000000000) a5))))) ((zset4_4 C.X (va_up (va_up (I 46) 1 a1) 2 a2) (va_up (va_up (J 46) 3 (m_minL 1000000000 (m_maxL (-1000000000) a3))) 4 v_paid) (m_minL 1000000000 (m_maxL (-1000000000) a5))).trans (congrArg (fun g => zf4 C.X (va_up (va_up (I 46) 1 a1) 2 a2) g) zn1)) (by rw [zflen4]; decide) (fun j hj => ⟨rfl, (zup_n hj).trans (zup_n hj).symm⟩) dX4_setMoment_42 ?_
  obtain ⟨rfl, rfl, rfl, rfl⟩ := zinj4 h
  exact zb_vret E hQ rfl ⟨Nat.zero_le _, Nat.zero_le _⟩ dX4_setMoment_45
theorem c_X4_setMoment {l : Launch} {X : zX} {I : Nat → Nat → Int32} {J : Nat → Nat → Int64} {Rr : Nat → Nat → Option Nat} {D : zD} {a1 : Int32} {a2 : Int32} {a3 : Int64} {a5 : Int64} (oI46 : Nat → Int32) (eoI46 : I 46 = oI46) (oJ46 : Nat → Int64) (eoJ46 : J 46 = oJ46) (v_debt : Int64) (e_v_debt : J 46 3 = v_debt) (v_paid : Int64) (e_v_paid : J 46 4 = v_paid) (v_shire : Int32) (e_v_shire : I 46 1 = v_shire) (v_term : Int32) (e_v_term : I 46 2 = v_term) {y_v_debt : Int64} {y_v_paid : Int64} {y_v_shire : Int32} {y_v_term : Int32} (h : pJudge_setMoment a1 a2 a3 a5 v_debt v_paid v_shire v_term = some (y_v_debt, y_v_paid, y_v_shire, y_v_term)) : zMv l yX4_setMoment cX4_setMoment 7 none ({ frames := 1, cells := 0, slots := 0, locals := 31 } : Room) X [.ref (X.1 + 46), .int a1, .int a2, .long a3, .long a5] (I, J, Rr, D) ((va_up I 46 (va_up (va_up oI46 1 y_v_shire) 2 y_v_term)), (va_up J 46 (va_up (va_up oJ46 3 y_v_debt) 4 y_v_paid)), Rr, D) := by
  subst eoI46
  subst eoJ46
  refine zMv.of (by decide) (Nat.le_of_ble_eq_true rfl) (fun C E hl hX hQ => ?_)
  subst hl
  subst hX
  have eI0 : (va_up I 46 (va_up (va_up (I 46) 1 v_shire) 2 v_term)) = I := by rw [zup_idE e_v_shire, zup_idE e_v_term, zup_id]
  have eJ0 : (va_up J 46 (va_up (va_up (J 46) 3 v_debt) 4 v_paid)) = J := by rw [zup_idE e_v_debt, zup_idE e_v_paid, zup_id]
  refine zb_S (S2 := ((va_up I 46 (va_up (va_up (I 46) 1 v_shire) 2 v_term)), (va_up J 46 (va_up (va_up (J 46) 3 v_debt) 4 v_paid)), Rr, D)) (zS_eq eI0.symm eJ0.symm) ?_
  exact c_X4_setMoment_0 a1 a2 a3 a5 y_v_debt y_v_paid y_v_shire y_v_term E hQ v_debt v_paid v_shire v_term h
-- ChequeredCloth$Judge.present
theorem dX4_present_0 : decode cX4_present 0 = .ok (.iload_n 1, 1) := by decide +kernel
theorem dX4_present_1 : decode cX4_present 1 = .ok (.tableswitch 46 (-3) (-1) #[41, 33, 27], 27) := by decide +kernel
theorem dX4_present_28 : decode cX4_present 28 = .ok (.aload_n 0, 1) := by decide +kernel
theorem dX4_present_29 : decode cX4_present 29 = .ok (.getfield 17, 3) := by decide +kernel
theorem dX4_present_32 : decode cX4_present 32 = .ok (.i2l, 1) := by decide +kernel
theorem dX4_present_33 : decode cX4_present 33 = .ok (.lreturn, 1) := by decide +kernel
theorem dX4_present_34 : decode cX4_present 34 = .ok (.aload_n 0, 1) := by decide +kernel
theorem dX4_present_35 : decode cX4_present 35 = .ok (.getfield 17, 3) := by decide +kernel
theorem dX4_present_38 : decode cX4_present 38 = .ok (.iconst 2, 1) := by decide +kernel
theorem dX4_present_39 : decode cX4_present 39 = .ok (.idiv, 1) := by decide +kernel
theorem dX4_present_40 : decode cX4_present 40 = .ok (.i2l, 1) := by decide +kernel
theorem dX4_present_41 : decode cX4_present 41 = .ok (.lreturn, 1) := by decide +kernel
theorem dX4_present_42 : decode cX4_present 42 = .ok (.aload_n 0, 1) := by decide +kernel
theorem dX4_present_43 : decode cX4_present 43 = .ok (.getfield 33, 3) := by decide +kernel
theorem dX4_present_46 : decode cX4_present 46 = .ok (.lreturn, 1) := by decide +kernel
theorem dX4_present_47 : decode cX4_present 47 = .ok (.aload_n 0, 1) := by decide +kernel
theorem dX4_present_48 : decode cX4_present 48 = .ok (.getfield 37, 3) := by decide +kernel
theorem dX4_present_51 : decode cX4_present 51 = .ok (.lreturn, 1) := by decide +kernel
theorem zy_X4_present : zYv yX4_present cX4_present 2 (some .long) 1 := ⟨zw_1017, zws_36, zw_9, zw_1018, by decide, by decide, by decide⟩
theorem c_X4_present_0 {C : zC} {I : Nat → Nat → Int32} {J : Nat → Nat → Int64} {Rr : Nat → Nat → Option Nat} {D : zD} (a1 : Int32) (v_debt : Int64) (e_v_debt : J 46 3 = v_debt) (v_paid : Int64) (e_v_paid : J 46 4 = v_paid) (v_term : Int32) (e_v_term : I 46 2 = v_term) (rr : Int64) (E : zE C RX4 cX4_present 2 (some .long) ({ frames := 0, cells := 0, slots := 0, locals := 0 } : Room)) (hQ : C.Q = zQl C ({ frames := 0, cells := 0, slots := 0, locals := 0 } : Room) rr (I, J, Rr, D)) (h : pJudge_present a1 v_debt v_paid v_term = some rr) : zB C (0, 0) 0 [(0, .ref (C.X.1 + 46)), (1, .int a1)] [] (I, J, Rr, D) := by
  refine zb_iload_n E dX4_present_0 1 rfl rfl ?_
  by_cases hc0 : a1 = (-3)
  · have h := if_t h hc0
    refine zb_tableIn E dX4_present_1 (tgt := 42) (by rw [hc0]; decide) (by rw [hc0]; decide) (by rw [hc0]; rfl) rfl ?_
    refine zb_aload_n E dX4_present_42 0 rfl rfl ?_
    refine zb_get E 46 (by decide) (zF_46 C.X) rfl zin4 3 (by decide) zw_236 (v := .long v_debt) (by exact congrArg (fun z => some (Value.long z)) e_v_debt) dX4_present_43 ?_
    obtain rfl := zinj1 h
    exact zb_lret E hQ rfl ⟨Nat.zero_le _, Nat.zero_le _⟩ dX4_present_46
  have h := if_f h hc0
  by_cases hc1 : a1 = (-2)
  · have h := if_t h hc1
    refine zb_tableIn E dX4_present_1 (tgt := 34) (by rw [hc1]; decide) (by rw [hc1]; decide) (by rw [hc1]; rfl) rfl ?_
    refine zb_aload_n E dX4_present_34 0 rfl rfl ?_
    refine zb_get E 46 (by decide) (zF_46 C.X) rfl zin4 2 (by decide) zw_235 (v := .int v_term) (by exact congrArg (fun z => some (Value.int z)) e_v_term) dX4_present_35 ?_
    refine zb_iconst E dX4_present_38 (v := 2) rfl ?_
    refine zb_idiv E dX4_present_39 (by decide) ?_
    refine zb_i2l E dX4_present_40 ?_
    obtain rfl := zinj1 h
    exact zb_lret E hQ rfl ⟨Nat.zero_le _, Nat.zero_le _⟩ dX4_present_41
  have h := if_f h hc1
  by_cases hc2 : a1 = (-1)
  · have h := if_t h hc2
    refine zb_tableIn E dX4_present_1 (tgt := 28) (by rw [hc2]; decide) (by rw [hc2]; decide) (by rw [hc2]; rfl) rfl ?_
    refine zb_aload_n E dX4_present_28 0 rfl rfl ?_
    refine zb_get E 46 (by decide) (zF_46 C.X) rfl zin4 2 (by decide) zw_235 (v := .int v_term) (by exact congrArg (fun z => some (Value.int z)) e_v_term) dX4_present_29 ?_
    refine zb_i2l E dX4_present_32 ?_
    obtain rfl := zinj1 h
    exact zb_lret E hQ rfl ⟨Nat.zero_le _, Nat.zero_le _⟩ dX4_present_33
  have h := if_f h hc2
  have hz0 : ¬ (a1).toInt = (-3 : Int) := fun e => hc0 (Int32.toInt_inj.mp (e.trans (by decide)))
  have hz1 : ¬ (a1).toInt = (-2 : Int) := fun e => hc1 (Int32.toInt_inj.mp (e.trans (by decide)))
  have hz2 : ¬ (a1).toInt = (-1 : Int) := fun e => hc2 (Int32.toInt_inj.mp (e.trans (by decide)))
  refine zb_tableOut E dX4_present_1 (tgt := 47) (by omega) rfl ?_
  refine zb_aload_n E dX4_present_47 0 rfl rfl ?_
  refine zb_get E 46 (by decide) (zF_46 C.X) rfl zin4 4 (by decide) zw_237 (v := .long v_paid) (by exact congrArg (fun z => some (Value.long z)) e_v_paid) dX4_present_48 ?_
  obtain rfl := zinj1 h
  exact zb_lret E hQ rfl ⟨Nat.zero_le _, Nat.zero_le _⟩ dX4_present_51
theorem c_X4_present {l : Launch} {X : zX} {I : Nat → Nat → Int32} {J : Nat → Nat → Int64} {Rr : Nat → Nat → Option Nat} {D : zD} {a1 : Int32} (v_debt : Int64) (e_v_debt : J 46 3 = v_debt) (v_paid : Int64) (e_v_paid : J 46 4 = v_paid) (v_term : Int32) (e_v_term : I 46 2 = v_term) {rr : Int64} (h : pJudge_present a1 v_debt v_paid v_term = some rr) : zMl l yX4_present cX4_present 2 (some .long) ({ frames := 0, cells := 0, slots := 0, locals := 0 } : Room) X [.ref (X.1 + 46), .int a1] (I, J, Rr, D) rr (I, J, Rr, D) := by
  refine zMl.of (by decide) (Nat.le_of_ble_eq_true rfl) (fun C E hl hX hQ => ?_)
  subst hl
  subst hX
  have eI0 : I = I := rfl
  have eJ0 : J = J := rfl
  refine zb_S (S2 := (I, J, Rr, D)) (zS_eq eI0.symm eJ0.symm) ?_
  exact c_X4_present_0 a1 v_debt e_v_debt v_paid e_v_paid v_term e_v_term rr E hQ h
-- ChequeredCloth$Judge.together
theorem dX4_together_0 : decode cX4_together 0 = .ok (.iload_n 0, 1) := by decide +kernel
theorem dX4_together_1 : decode cX4_together 1 = .ok (.tableswitch 159 (-17) (-7) #[129, 123, 159, 147, 135, 129, 123, 107, 91, 75, 59], 59) := by decide +kernel
theorem dX4_together_60 : decode cX4_together 60 = .ok (.ldc2_w 20, 3) := by decide +kernel
theorem dX4_together_63 : decode cX4_together 63 = .ok (.ldc2_w 22, 3) := by decide +kernel
theorem dX4_together_66 : decode cX4_together 66 = .ok (.lload_n 1, 1) := by decide +kernel
theorem dX4_together_67 : decode cX4_together 67 = .ok (.lload_n 3, 1) := by decide +kernel
theorem dX4_together_68 : decode cX4_together 68 = .ok (.ladd, 1) := by decide +kernel
theorem dX4_together_69 : decode cX4_together 69 = .ok (.invokestatic 24, 3) := by decide +kernel
theorem dX4_together_72 : decode cX4_together 72 = .ok (.invokestatic 30, 3) := by decide +kernel
theorem dX4_together_75 : decode cX4_together 75 = .ok (.lreturn, 1) := by decide +kernel
theorem dX4_together_76 : decode cX4_together 76 = .ok (.ldc2_w 20, 3) := by decide +kernel
theorem dX4_together_79 : decode cX4_together 79 = .ok (.ldc2_w 22, 3) := by decide +kernel
theorem dX4_together_82 : decode cX4_together 82 = .ok (.lload_n 1, 1) := by decide +kernel
theorem dX4_together_83 : decode cX4_together 83 = .ok (.lload_n 3, 1) := by decide +kernel
theorem dX4_together_84 : decode cX4_together 84 = .ok (.lsub, 1) := by decide +kernel
theorem dX4_together_85 : decode cX4_together 85 = .ok (.invokestatic 24, 3) := by decide +kernel
theorem dX4_together_88 : decode cX4_together 88 = .ok (.invokestatic 30, 3) := by decide +kernel
theorem dX4_together_91 : decode cX4_together 91 = .ok (.lreturn, 1) := by decide +kernel
theorem dX4_together_92 : decode cX4_together 92 = .ok (.ldc2_w 20, 3) := by decide +kernel
theorem dX4_together_95 : decode cX4_together 95 = .ok (.ldc2_w 22, 3) := by decide +kernel
theorem dX4_together_98 : decode cX4_together 98 = .ok (.lload_n 1, 1) := by decide +kernel
theorem dX4_together_99 : decode cX4_together 99 = .ok (.lload_n 3, 1) := by decide +kernel
theorem dX4_together_100 : decode cX4_together 100 = .ok (.lmul, 1) := by decide +kernel
theorem dX4_together_101 : decode cX4_together 101 = .ok (.invokestatic 24, 3) := by decide +kernel
theorem dX4_together_104 : decode cX4_together 104 = .ok (.invokestatic 30, 3) := by decide +kernel
theorem dX4_together_107 : decode cX4_together 107 = .ok (.lreturn, 1) := by decide +kernel
theorem dX4_together_108 : decode cX4_together 108 = .ok (.lload_n 3, 1) := by decide +kernel
theorem dX4_together_109 : decode cX4_together 109 = .ok (.lconst 0, 1) := by decide +kernel
theorem dX4_together_110 : decode cX4_together 110 = .ok (.lcmp, 1) := by decide +kernel
theorem dX4_together_111 : decode cX4_together 111 = .ok (.ifCond .ne 7, 3) := by decide +kernel
theorem dX4_together_114 : decode cX4_together 114 = .ok (.lconst 0, 1) := by decide +kernel
theorem dX4_together_115 : decode cX4_together 115 = .ok (.goto 8, 3) := by decide +kernel
theorem dX4_together_118 : decode cX4_together 118 = .ok (.lload_n 1, 1) := by decide +kernel
theorem dX4_together_119 : decode cX4_together 119 = .ok (.lload_n 3, 1) := by decide +kernel
theorem dX4_together_120 : decode cX4_together 120 = .ok (.invokestatic 51, 3) := by decide +kernel
theorem dX4_together_123 : decode cX4_together 123 = .ok (.lreturn, 1) := by decide +kernel
theorem dX4_together_124 : decode cX4_together 124 = .ok (.lload_n 1, 1) := by decide +kernel
theorem dX4_together_125 : decode cX4_together 125 = .ok (.lload_n 3, 1) := by decide +kernel
theorem dX4_together_126 : decode cX4_together 126 = .ok (.invokestatic 30, 3) := by decide +kernel
theorem dX4_together_129 : decode cX4_together 129 = .ok (.lreturn, 1) := by decide +kernel
theorem dX4_together_130 : decode cX4_together 130 = .ok (.lload_n 1, 1) := by decide +kernel
theorem dX4_together_131 : decode cX4_together 131 = .ok (.lload_n 3, 1) := by decide +kernel
theorem dX4_together_132 : decode cX4_together 132 = .ok (.invokestatic 24, 3) := by decide +kernel
theorem dX4_together_135 : decode cX4_together 135 = .ok (.lreturn, 1) := by decide +kernel
theorem dX4_together_136 : decode cX4_together 136 = .ok (.lload_n 1, 1) := by decide +kernel
theorem dX4_together_137 : decode cX4_together 137 = .ok (.lload_n 3, 1) := by decide +kernel
theorem dX4_together_138 : decode cX4_together 138 = .ok (.lcmp, 1) := by decide +kernel
theorem dX4_together_139 : decode cX4_together 139 = .ok (.ifCond .ge 7, 3) := by decide +kernel
theorem dX4_together_142 : decode cX4_together 142 = .ok (.lconst 1, 1) := by decide +kernel
theorem dX4_together_143 : decode cX4_together 143 = .ok (.goto 4, 3) := by decide +kernel
theorem dX4_together_146 : decode cX4_together 146 = .ok (.lconst 0, 1) := by decide +kernel
theorem dX4_together_147 : decode cX4_together 147 = .ok (.lreturn, 1) := by decide +kernel
theorem dX4_together_148 : decode cX4_together 148 = .ok (.lload_n 1, 1) := by decide +kernel
theorem dX4_together_149 : decode cX4_together 149 = .ok (.lload_n 3, 1) := by decide +kernel
theorem dX4_together_150 : decode cX4_together 150 = .ok (.lcmp, 1) := by decide +kernel
theorem dX4_together_151 : decode cX4_together 151 = .ok (.ifCond .le 7, 3) := by decide +kernel
theorem dX4_together_154 : decode cX4_together 154 = .ok (.lconst 1, 1) := by decide +kernel
theorem dX4_together_155 : decode cX4_together 155 = .ok (.goto 4, 3) := by decide +kernel
theorem dX4_together_158 : decode cX4_together 158 = .ok (.lconst 0, 1) := by decide +kernel
theorem dX4_together_159 : decode cX4_together 159 = .ok (.lreturn, 1) := by decide +kernel
theorem dX4_together_160 : decode cX4_together 160 = .ok (.lload_n 1, 1) := by decide +kernel
theorem dX4_together_161 : decode cX4_together 161 = .ok (.lload_n 3, 1) := by decide +kernel
theorem dX4_together_162 : decode cX4_together 162 = .ok (.lcmp, 1) := by decide +kernel
theorem dX4_together_163 : decode cX4_together 163 = .ok (.ifCond .ne 7, 3) := by decide +kernel
theorem dX4_together_166 : decode cX4_together 166 = .ok (.lconst 1, 1) := by decide +kernel
theorem dX4_together_167 : decode cX4_together 167 = .ok (.goto 4, 3) := by decide +kernel
theorem dX4_together_170 : decode cX4_together 170 = .ok (.lconst 0, 1) := by decide +kernel
theorem dX4_together_171 : decode cX4_together 171 = .ok (.lreturn, 1) := by decide +kernel
theorem zy_X4_together : zYs yX4_together cX4_together 5 (some .long) 3 := ⟨zw_1020, zw_9, zw_1021, by decide, by decide, by decide⟩
theorem c_X4_together_0 {C : zC} {I : Nat → Nat → Int32} {J : Nat → Nat → Int64} {Rr : Nat → Nat → Option Nat} {D : zD} (a0 : Int32) (a1 : Int64) (a3 : Int64) (rr : Int64) (E : zE C RX4 cX4_together 5 (some .long) ({ frames := 1, cells := 0, slots := 0, locals := 31 } : Room)) (hQ : C.Q = zQl C ({ frames := 1, cells := 0, slots := 0, locals := 31 } : Room) rr (I, J, Rr, D)) (h : pJudge_together a0 a1 a3 = some rr) : zB C (0, 0) 0 [(0, .int a0), (1, .long a1), (3, .long a3)] [] (I, J, Rr, D) := by
  refine zb_iload_n E dX4_together_0 0 rfl rfl ?_
  by_cases hc0 : a0 = (-17)
  · have h := if_t h hc0
    refine zb_tableIn E dX4_together_1 (tgt := 130) (by rw [hc0]; decide) (by rw [hc0]; decide) (by rw [hc0]; rfl) rfl ?_
    refine zb_lload_n E dX4_together_130 1 rfl rfl ?_
    refine zb_lload_n E dX4_together_131 2 rfl rfl ?_
    refine zb_mmaxL E zYm_mmaxL zw_1004 (by decide) (by first | decide | simp [Value.category]) dX4_together_132 ?_
    obtain rfl := zinj1 h
    exact zb_lret E hQ rfl ⟨Nat.zero_le _, Nat.zero_le _⟩ dX4_together_135
  have h := if_f h hc0
  by_cases hc1 : a0 = (-16)
  · have h := if_t h hc1
    refine zb_tableIn E dX4_together_1 (tgt := 124) (by rw [hc1]; decide) (by rw [hc1]; decide) (by rw [hc1]; rfl) rfl ?_
    refine zb_lload_n E dX4_together_124 1 rfl rfl ?_
    refine zb_lload_n E dX4_together_125 2 rfl rfl ?_
    refine zb_mminL E zYm_mminL zw_1007 (by decide) (by first | decide | simp [Value.category]) dX4_together_126 ?_
    obtain rfl := zinj1 h
    exact zb_lret E hQ rfl ⟨Nat.zero_le _, Nat.zero_le _⟩ dX4_together_129
  have h := if_f h hc1
  by_cases hc2 : a0 = (-14)
  · have h := if_t h hc2
    refine zb_tableIn E dX4_together_1 (tgt := 148) (by rw [hc2]; decide) (by rw [hc2]; decide) (by rw [hc2]; rfl) rfl ?_
    refine zb_lload_n E dX4_together_148 1 rfl rfl ?_
    refine zb_lload_n E dX4_together_149 2 rfl rfl ?_
    refine zb_lcmp E dX4_together_150 ?_
    refine zb_if_le E dX4_together_151 (tgt := 158) rfl (fun hc => ?_) (fun hc => ?_)
    · have h := if_t h hc
      refine zb_lconst E dX4_together_158 (v := 0) rfl ?_
      obtain rfl := zinj1 h
      exact zb_lret E hQ rfl ⟨Nat.zero_le _, Nat.zero_le _⟩ dX4_together_159
    · have h := if_f h hc
      refine zb_lconst E dX4_together_154 (v := 1) rfl ?_
      refine zb_goto E dX4_together_155 (tgt := 159) rfl ?_
      obtain rfl := zinj1 h
      exact zb_lret E hQ rfl ⟨Nat.zero_le _, Nat.zero_le _⟩ dX4_together_159
  have h := if_f h hc2
  by_cases hc3 : a0 = (-13)
  · have h := if_t h hc3
    refine zb_tableIn E dX4_together_1 (tgt := 136) (by rw [hc3]; decide) (by rw [hc3]; decide) (by rw [hc3]; rfl) rfl ?_
    refine zb_lload_n E dX4_together_136 1 rfl rfl ?_
    refine zb_lload_n E dX4_together_137 2 rfl rfl ?_
    refine zb_lcmp E dX4_together_138 ?_
    refine zb_if_ge E dX4_together_139 (tgt := 146) rfl (fun hc => ?_) (fun hc => ?_)
    · have h := if_t h hc
      refine zb_lconst E dX4_together_146 (v := 0) rfl ?_
      obtain rfl := zinj1 h
      exact zb_lret E hQ rfl ⟨Nat.zero_le _, Nat.zero_le _⟩ dX4_together_147
    · have h := if_f h hc
      refine zb_lconst E dX4_together_142 (v := 1) rfl ?_
      refine zb_goto E dX4_together_143 (tgt := 147) rfl ?_
      obtain rfl := zinj1 h
      exact zb_lret E hQ rfl ⟨Nat.zero_le _, Nat.zero_le _⟩ dX4_together_147
  have h := if_f h hc3
  by_cases hc4 : a0 = (-12)
  · have h := if_t h hc4
    refine zb_tableIn E dX4_together_1 (tgt := 130) (by rw [hc4]; decide) (by rw [hc4]; decide) (by rw [hc4]; rfl) rfl ?_
    refine zb_lload_n E dX4_together_130 1 rfl rfl ?_
    refine zb_lload_n E dX4_together_131 2 rfl rfl ?_
    refine zb_mmaxL E zYm_mmaxL zw_1004 (by decide) (by first | decide | simp [Value.category]) dX4_together_132 ?_
    obtain rfl := zinj1 h
    exact zb_lret E hQ rfl ⟨Nat.zero_le _, Nat.zero_le _⟩ dX4_together_135
  have h := if_f h hc4
  by_cases hc5 : a0 = (-11)
  · have h := if_t h hc5
    refine zb_tableIn E dX4_together_1 (tgt := 124) (by rw [hc5]; decide) (by rw [hc5]; decide) (by rw [hc5]; rfl) rfl ?_
    refine zb_lload_n E dX4_together_124 1 rfl rfl ?_
    refine zb_lload_n E dX4_together_125 2 rfl rfl ?_
    refine zb_mminL E zYm_mminL zw_1007 (by decide) (by first | decide | simp [Value.category]) dX4_together_126 ?_
    obtain rfl := zinj1 h
    exact zb_lret E hQ rfl ⟨Nat.zero_le _, Nat.zero_le _⟩ dX4_together_129
  have h := if_f h hc5
  by_cases hc6 : a0 = (-10)
  · have h := if_t h hc6
    refine zb_tableIn E dX4_together_1 (tgt := 108) (by rw [hc6]; decide) (by rw [hc6]; decide) (by rw [hc6]; rfl) rfl ?_
    refine zb_lload_n E dX4_together_108 2 rfl rfl ?_
    refine zb_lconst E dX4_together_109 (v := 0) rfl ?_
    refine zb_lcmp E dX4_together_110 ?_
    refine zb_if_ne E dX4_together_111 (tgt := 118) rfl (fun hc => ?_) (fun hc => ?_)
    · have h := if_f h hc
      refine zb_lload_n E dX4_together_118 1 rfl rfl ?_
      refine zb_lload_n E dX4_together_119 2 rfl rfl ?_
      obtain ⟨rc1, hc_120, h⟩ := bd1_s h
      refine zb_cSl E [.long a1, .long a3] zy_J9_floorDiv_f86c9 zw_1022 (c_J9_floorDiv_f86c9 hc_120) (by decide) rfl rfl (by first | decide | simp [Value.category]) dX4_together_120 (cs2 := (0, 0)) rfl ?_
      obtain rfl := zinj1 h
      exact zb_lret E hQ rfl ⟨Nat.zero_le _, Nat.zero_le _⟩ dX4_together_123
    · have h := if_t h hc
      refine zb_lconst E dX4_together_114 (v := 0) rfl ?_
      refine zb_goto E dX4_together_115 (tgt := 123) rfl ?_
      obtain rfl := zinj1 h
      exact zb_lret E hQ rfl ⟨Nat.zero_le _, Nat.zero_le _⟩ dX4_together_123
  have h := if_f h hc6
  by_cases hc7 : a0 = (-9)
  · have h := if_t h hc7
    refine zb_tableIn E dX4_together_1 (tgt := 92) (by rw [hc7]; decide) (by rw [hc7]; decide) (by rw [hc7]; rfl) rfl ?_
    refine zb_ldc2 E dX4_together_92 (v := 1000000000) zw_1002 ?_
    refine zb_ldc2 E dX4_together_95 (v := (-1000000000)) zw_1003 ?_
    refine zb_lload_n E dX4_together_98 1 rfl rfl ?_
    refine zb_lload_n E dX4_together_99 2 rfl rfl ?_
    refine zb_lmul E dX4_together_100 ?_
    refine zb_mmaxL E zYm_mmaxL zw_1004 (by decide) (by first | decide | simp [Value.category]) dX4_together_101 ?_
    refine zb_mminL E zYm_mminL zw_1007 (by decide) (by first | decide | simp [Value.category]) dX4_together_104 ?_
    obtain rfl := zinj1 h
    exact zb_lret E hQ rfl ⟨Nat.zero_le _, Nat.zero_le _⟩ dX4_together_107
  have h := if_f h hc7
  by_cases hc8 : a0 = (-8)
  · have h := if_t h hc8
    refine zb_tableIn E dX4_together_1 (tgt := 76) (by rw [hc8]; decide) (by rw [hc8]; decide) (by rw [hc8]; rfl) rfl ?_
    refine zb_ldc2 E dX4_together_76 (v := 1000000000) zw_1002 ?_
    refine zb_ldc2 E dX4_together_79 (v := (-1000000000)) zw_1003 ?_
    refine zb_lload_n E dX4_together_82 1 rfl rfl ?_
    refine zb_lload_n E dX4_together_83 2 rfl rfl ?_
    refine zb_lsub E dX4_together_84 ?_
    refine zb_mmaxL E zYm_mmaxL zw_1004 (by decide) (by first | decide | simp [Value.category]) dX4_together_85 ?_
    refine zb_mminL E zYm_mminL zw_1007 (by decide) (by first | decide | simp [Value.category]) dX4_together_88 ?_
    obtain rfl := zinj1 h
    exact zb_lret E hQ rfl ⟨Nat.zero_le _, Nat.zero_le _⟩ dX4_together_91
  have h := if_f h hc8
  by_cases hc9 : a0 = (-7)
  · have h := if_t h hc9
    refine zb_tableIn E dX4_together_1 (tgt := 60) (by rw [hc9]; decide) (by rw [hc9]; decide) (by rw [hc9]; rfl) rfl ?_
    refine zb_ldc2 E dX4_together_60 (v := 1000000000) zw_1002 ?_
    refine zb_ldc2 E dX4_together_63 (v := (-1000000000)) zw_1003 ?_
    refine zb_lload_n E dX4_together_66 1 rfl rfl ?_
    refine zb_lload_n E dX4_together_67 2 rfl rfl ?_
    refine zb_ladd E dX4_together_68 ?_
    refine zb_mmaxL E zYm_mmaxL zw_1004 (by decide) (by first | decide | simp [Value.category]) dX4_together_69 ?_
    refine zb_mminL E zYm_mminL zw_1007 (by decide) (by first | decide | simp [Value.category]) dX4_together_72 ?_
    obtain rfl := zinj1 h
    exact zb_lret E hQ rfl ⟨Nat.zero_le _, Nat.zero_le _⟩ dX4_together_75
  have h := if_f h hc9
  have hd : zB C (0, 0) 160 [(0, .int a0), (1, .long a1), (3, .long a3)] [] (I, J, Rr, D) := by
    refine zb_lload_n E dX4_together_160 1 rfl rfl ?_
    refine zb_lload_n E dX4_together_161 2 rfl rfl ?_
    refine zb_lcmp E dX4_together_162 ?_
    refine zb_if_ne E dX4_together_163 (tgt := 170) rfl (fun hc => ?_) (fun hc => ?_)
    · have h := if_f h hc
      refine zb_lconst E dX4_together_170 (v := 0) rfl ?_
      obtain rfl := zinj1 h
      exact zb_lret E hQ rfl ⟨Nat.zero_le _, Nat.zero_le _⟩ dX4_together_171
    · have h := if_t h hc
      refine zb_lconst E dX4_together_166 (v := 1) rfl ?_
      refine zb_goto E dX4_together_167 (tgt := 171) rfl ?_
      obtain rfl := zinj1 h
      exact zb_lret E hQ rfl ⟨Nat.zero_le _, Nat.zero_le _⟩ dX4_together_171
  by_cases hgm15 : a0 = (-15)
  · exact zb_tableIn E dX4_together_1 (tgt := 160) (by rw [hgm15]; decide) (by rw [hgm15]; decide) (by rw [hgm15]; rfl) rfl hd
  have hzgm15 : ¬ (a0).toInt = (-15 : Int) := fun e => hgm15 (Int32.toInt_inj.mp (e.trans (by decide)))
  have hz0 : ¬ (a0).toInt = (-17 : Int) := fun e => hc0 (Int32.toInt_inj.mp (e.trans (by decide)))
  have hz1 : ¬ (a0).toInt = (-16 : Int) := fun e => hc1 (Int32.toInt_inj.mp (e.trans (by decide)))
  have hz2 : ¬ (a0).toInt = (-14 : Int) := fun e => hc2 (Int32.toInt_inj.mp (e.trans (by decide)))
  have hz3 : ¬ (a0).toInt = (-13 : Int) := fun e => hc3 (Int32.toInt_inj.mp (e.trans (by decide)))
  have hz4 : ¬ (a0).toInt = (-12 : Int) := fun e => hc4 (Int32.toInt_inj.mp (e.trans (by decide)))
  have hz5 : ¬ (a0).toInt = (-11 : Int) := fun e => hc5 (Int32.toInt_inj.mp (e.trans (by decide)))
  have hz6 : ¬ (a0).toInt = (-10 : Int) := fun e => hc6 (Int32.toInt_inj.mp (e.trans (by decide)))
  have hz7 : ¬ (a0).toInt = (-9 : Int) := fun e => hc7 (Int32.toInt_inj.mp (e.trans (by decide)))
  have hz8 : ¬ (a0).toInt = (-8 : Int) := fun e => hc8 (Int32.toInt_inj.mp (e.trans (by decide)))
  have hz9 : ¬ (a0).toInt = (-7 : Int) := fun e => hc9 (Int32.toInt_inj.mp (e.trans (by decide)))
  exact zb_tableOut E dX4_together_1 (tgt := 160) (by omega) rfl hd
theorem c_X4_together {l : Launch} {X : zX} {I : Nat → Nat → Int32} {J : Nat → Nat → Int64} {Rr : Nat → Nat → Option Nat} {D : zD} {a0 : Int32} {a1 : Int64} {a3 : Int64} {rr : Int64} (h : pJudge_together a0 a1 a3 = some rr) : zMl l yX4_together cX4_together 5 (some .long) ({ frames := 1, cells := 0, slots := 0, locals := 31 } : Room) X [.int a0, .long a1, .long a3] (I, J, Rr, D) rr (I, J, Rr, D) := by
  refine zMl.of (by decide) (Nat.le_of_ble_eq_true rfl) (fun C E hl hX hQ => ?_)
  subst hl
  subst hX
  have eI0 : I = I := rfl
  have eJ0 : J = J := rfl
  refine zb_S (S2 := (I, J, Rr, D)) (zS_eq eI0.symm eJ0.symm) ?_
  exact c_X4_together_0 a0 a1 a3 rr E hQ h
-- ChequeredCloth$Judge.valueOf
theorem dX4_valueOf_0 : decode cX4_valueOf 0 = .ok (.iconst 0, 1) := by decide +kernel
theorem dX4_valueOf_1 : decode cX4_valueOf 1 = .ok (.istore 4, 2) := by decide +kernel
theorem dX4_valueOf_3 : decode cX4_valueOf 3 = .ok (.iload_n 2, 1) := by decide +kernel
theorem dX4_valueOf_4 : decode cX4_valueOf 4 = .ok (.iconst 0, 1) := by decide +kernel
theorem dX4_valueOf_5 : decode cX4_valueOf 5 = .ok (.invokestatic 40, 3) := by decide +kernel
theorem dX4_valueOf_8 : decode cX4_valueOf 8 = .ok (.istore 5, 2) := by decide +kernel
theorem dX4_valueOf_10 : decode cX4_valueOf 10 = .ok (.iload 5, 2) := by decide +kernel
theorem dX4_valueOf_12 : decode cX4_valueOf 12 = .ok (.iload_n 3, 1) := by decide +kernel
theorem dX4_valueOf_13 : decode cX4_valueOf 13 = .ok (.if_icmp .ge 163, 3) := by decide +kernel
theorem dX4_valueOf_16 : decode cX4_valueOf 16 = .ok (.iload 5, 2) := by decide +kernel
theorem dX4_valueOf_18 : decode cX4_valueOf 18 = .ok (.aload_n 1, 1) := by decide +kernel
theorem dX4_valueOf_19 : decode cX4_valueOf 19 = .ok (.arraylength, 1) := by decide +kernel
theorem dX4_valueOf_20 : decode cX4_valueOf 20 = .ok (.if_icmp .ge 156, 3) := by decide +kernel
theorem dX4_valueOf_23 : decode cX4_valueOf 23 = .ok (.aload_n 1, 1) := by decide +kernel
theorem dX4_valueOf_24 : decode cX4_valueOf 24 = .ok (.iload 5, 2) := by decide +kernel
theorem dX4_valueOf_26 : decode cX4_valueOf 26 = .ok (.iaload, 1) := by decide +kernel
theorem dX4_valueOf_27 : decode cX4_valueOf 27 = .ok (.istore 6, 2) := by decide +kernel
theorem dX4_valueOf_29 : decode cX4_valueOf 29 = .ok (.iload 6, 2) := by decide +kernel
theorem dX4_valueOf_31 : decode cX4_valueOf 31 = .ok (.bipush (-4), 2) := by decide +kernel
theorem dX4_valueOf_33 : decode cX4_valueOf 33 = .ok (.if_icmp .lt 40, 3) := by decide +kernel
theorem dX4_valueOf_36 : decode cX4_valueOf 36 = .ok (.iload 4, 2) := by decide +kernel
theorem dX4_valueOf_38 : decode cX4_valueOf 38 = .ok (.bipush 64, 2) := by decide +kernel
theorem dX4_valueOf_40 : decode cX4_valueOf 40 = .ok (.if_icmp .ge 130, 3) := by decide +kernel
theorem dX4_valueOf_43 : decode cX4_valueOf 43 = .ok (.aload_n 0, 1) := by decide +kernel
theorem dX4_valueOf_44 : decode cX4_valueOf 44 = .ok (.getfield 9, 3) := by decide +kernel
theorem dX4_valueOf_47 : decode cX4_valueOf 47 = .ok (.iload 4, 2) := by decide +kernel
theorem dX4_valueOf_49 : decode cX4_valueOf 49 = .ok (.iload 6, 2) := by decide +kernel
theorem dX4_valueOf_51 : decode cX4_valueOf 51 = .ok (.ifCond .lt 9, 3) := by decide +kernel
theorem dX4_valueOf_54 : decode cX4_valueOf 54 = .ok (.iload 6, 2) := by decide +kernel
theorem dX4_valueOf_56 : decode cX4_valueOf 56 = .ok (.i2l, 1) := by decide +kernel
theorem dX4_valueOf_57 : decode cX4_valueOf 57 = .ok (.goto 9, 3) := by decide +kernel
theorem dX4_valueOf_60 : decode cX4_valueOf 60 = .ok (.aload_n 0, 1) := by decide +kernel
theorem dX4_valueOf_61 : decode cX4_valueOf 61 = .ok (.iload 6, 2) := by decide +kernel
theorem dX4_valueOf_63 : decode cX4_valueOf 63 = .ok (.invokevirtual 43, 3) := by decide +kernel
theorem dX4_valueOf_66 : decode cX4_valueOf 66 = .ok (.lastore, 1) := by decide +kernel
theorem dX4_valueOf_67 : decode cX4_valueOf 67 = .ok (.iinc 4 1, 3) := by decide +kernel
theorem dX4_valueOf_70 : decode cX4_valueOf 70 = .ok (.goto 100, 3) := by decide +kernel
theorem dX4_valueOf_73 : decode cX4_valueOf 73 = .ok (.iload 6, 2) := by decide +kernel
theorem dX4_valueOf_75 : decode cX4_valueOf 75 = .ok (.bipush (-6), 2) := by decide +kernel
theorem dX4_valueOf_77 : decode cX4_valueOf 77 = .ok (.if_icmp .lt 54, 3) := by decide +kernel
theorem dX4_valueOf_80 : decode cX4_valueOf 80 = .ok (.iload 4, 2) := by decide +kernel
theorem dX4_valueOf_82 : decode cX4_valueOf 82 = .ok (.ifCond .le 88, 3) := by decide +kernel
theorem dX4_valueOf_85 : decode cX4_valueOf 85 = .ok (.aload_n 0, 1) := by decide +kernel
theorem dX4_valueOf_86 : decode cX4_valueOf 86 = .ok (.getfield 9, 3) := by decide +kernel
theorem dX4_valueOf_89 : decode cX4_valueOf 89 = .ok (.iload 4, 2) := by decide +kernel
theorem dX4_valueOf_91 : decode cX4_valueOf 91 = .ok (.iconst 1, 1) := by decide +kernel
theorem dX4_valueOf_92 : decode cX4_valueOf 92 = .ok (.isub, 1) := by decide +kernel
theorem dX4_valueOf_93 : decode cX4_valueOf 93 = .ok (.aload_n 0, 1) := by decide +kernel
theorem dX4_valueOf_94 : decode cX4_valueOf 94 = .ok (.getfield 9, 3) := by decide +kernel
theorem dX4_valueOf_97 : decode cX4_valueOf 97 = .ok (.iload 4, 2) := by decide +kernel
theorem dX4_valueOf_99 : decode cX4_valueOf 99 = .ok (.iconst 1, 1) := by decide +kernel
theorem dX4_valueOf_100 : decode cX4_valueOf 100 = .ok (.isub, 1) := by decide +kernel
theorem dX4_valueOf_101 : decode cX4_valueOf 101 = .ok (.laload, 1) := by decide +kernel
theorem dX4_valueOf_102 : decode cX4_valueOf 102 = .ok (.iload 6, 2) := by decide +kernel
theorem dX4_valueOf_104 : decode cX4_valueOf 104 = .ok (.bipush (-6), 2) := by decide +kernel
theorem dX4_valueOf_106 : decode cX4_valueOf 106 = .ok (.if_icmp .ne 10, 3) := by decide +kernel
theorem dX4_valueOf_109 : decode cX4_valueOf 109 = .ok (.aload_n 0, 1) := by decide +kernel
theorem dX4_valueOf_110 : decode cX4_valueOf 110 = .ok (.getfield 13, 3) := by decide +kernel
theorem dX4_valueOf_113 : decode cX4_valueOf 113 = .ok (.goto 4, 3) := by decide +kernel
theorem dX4_valueOf_116 : decode cX4_valueOf 116 = .ok (.iconst 0, 1) := by decide +kernel
theorem dX4_valueOf_117 : decode cX4_valueOf 117 = .ok (.i2l, 1) := by decide +kernel
theorem dX4_valueOf_118 : decode cX4_valueOf 118 = .ok (.lcmp, 1) := by decide +kernel
theorem dX4_valueOf_119 : decode cX4_valueOf 119 = .ok (.ifCond .ne 7, 3) := by decide +kernel
theorem dX4_valueOf_122 : decode cX4_valueOf 122 = .ok (.lconst 1, 1) := by decide +kernel
theorem dX4_valueOf_123 : decode cX4_valueOf 123 = .ok (.goto 4, 3) := by decide +kernel
theorem dX4_valueOf_126 : decode cX4_valueOf 126 = .ok (.lconst 0, 1) := by decide +kernel
theorem dX4_valueOf_127 : decode cX4_valueOf 127 = .ok (.lastore, 1) := by decide +kernel
theorem dX4_valueOf_128 : decode cX4_valueOf 128 = .ok (.goto 42, 3) := by decide +kernel
theorem dX4_valueOf_131 : decode cX4_valueOf 131 = .ok (.iload 4, 2) := by decide +kernel
theorem dX4_valueOf_133 : decode cX4_valueOf 133 = .ok (.iconst 1, 1) := by decide +kernel
theorem dX4_valueOf_134 : decode cX4_valueOf 134 = .ok (.if_icmp .le 36, 3) := by decide +kernel
theorem dX4_valueOf_137 : decode cX4_valueOf 137 = .ok (.iinc 4 (-1), 3) := by decide +kernel
theorem dX4_valueOf_140 : decode cX4_valueOf 140 = .ok (.aload_n 0, 1) := by decide +kernel
theorem dX4_valueOf_141 : decode cX4_valueOf 141 = .ok (.getfield 9, 3) := by decide +kernel
theorem dX4_valueOf_144 : decode cX4_valueOf 144 = .ok (.iload 4, 2) := by decide +kernel
theorem dX4_valueOf_146 : decode cX4_valueOf 146 = .ok (.iconst 1, 1) := by decide +kernel
theorem dX4_valueOf_147 : decode cX4_valueOf 147 = .ok (.isub, 1) := by decide +kernel
theorem dX4_valueOf_148 : decode cX4_valueOf 148 = .ok (.iload 6, 2) := by decide +kernel
theorem dX4_valueOf_150 : decode cX4_valueOf 150 = .ok (.aload_n 0, 1) := by decide +kernel
theorem dX4_valueOf_151 : decode cX4_valueOf 151 = .ok (.getfield 9, 3) := by decide +kernel
theorem dX4_valueOf_154 : decode cX4_valueOf 154 = .ok (.iload 4, 2) := by decide +kernel
theorem dX4_valueOf_156 : decode cX4_valueOf 156 = .ok (.iconst 1, 1) := by decide +kernel
theorem dX4_valueOf_157 : decode cX4_valueOf 157 = .ok (.isub, 1) := by decide +kernel
theorem dX4_valueOf_158 : decode cX4_valueOf 158 = .ok (.laload, 1) := by decide +kernel
theorem dX4_valueOf_159 : decode cX4_valueOf 159 = .ok (.aload_n 0, 1) := by decide +kernel
theorem dX4_valueOf_160 : decode cX4_valueOf 160 = .ok (.getfield 9, 3) := by decide +kernel
theorem dX4_valueOf_163 : decode cX4_valueOf 163 = .ok (.iload 4, 2) := by decide +kernel
theorem dX4_valueOf_165 : decode cX4_valueOf 165 = .ok (.laload, 1) := by decide +kernel
theorem dX4_valueOf_166 : decode cX4_valueOf 166 = .ok (.invokestatic 47, 3) := by decide +kernel
theorem dX4_valueOf_169 : decode cX4_valueOf 169 = .ok (.lastore, 1) := by decide +kernel
theorem dX4_valueOf_170 : decode cX4_valueOf 170 = .ok (.iinc 5 1, 3) := by decide +kernel
theorem dX4_valueOf_173 : decode cX4_valueOf 173 = .ok (.goto (-163), 3) := by decide +kernel
theorem dX4_valueOf_176 : decode cX4_valueOf 176 = .ok (.iload 4, 2) := by decide +kernel
theorem dX4_valueOf_178 : decode cX4_valueOf 178 = .ok (.ifCond .le 12, 3) := by decide +kernel
theorem dX4_valueOf_181 : decode cX4_valueOf 181 = .ok (.aload_n 0, 1) := by decide +kernel
theorem dX4_valueOf_182 : decode cX4_valueOf 182 = .ok (.getfield 9, 3) := by decide +kernel
theorem dX4_valueOf_185 : decode cX4_valueOf 185 = .ok (.iconst 0, 1) := by decide +kernel
theorem dX4_valueOf_186 : decode cX4_valueOf 186 = .ok (.laload, 1) := by decide +kernel
theorem dX4_valueOf_187 : decode cX4_valueOf 187 = .ok (.goto 4, 3) := by decide +kernel
theorem dX4_valueOf_190 : decode cX4_valueOf 190 = .ok (.lconst 0, 1) := by decide +kernel
theorem dX4_valueOf_191 : decode cX4_valueOf 191 = .ok (.lreturn, 1) := by decide +kernel
theorem zy_X4_valueOf : zYv yX4_valueOf cX4_valueOf 7 (some .long) 3 := ⟨zw_1011, zw_1012, zw_9, zw_1013, by decide, by decide, by decide⟩
theorem c_X4_valueOf_b127 {C : zC} {I : Nat → Nat → Int32} {J : Nat → Nat → Int64} {Rr : Nat → Nat → Option Nat} {v_D : zD} (N : Nat) (a1 : (Option Nat)) (a2 : Int32) (a3 : Int32) (v_debt : Int64) (e_v_debt : J 46 3 = v_debt) (v_paid : Int64) (e_v_paid : J 46 4 = v_paid) (v_shire : Int32) (e_v_shire : I 46 1 = v_shire) (v_term : Int32) (e_v_term : I 46 2 = v_term) (rr : Int64) (y_v_stack : (Nat → Int64)) (E : zE C RX4 cX4_valueOf 7 (some .long) ({ frames := 2, cells := 0, slots := 0, locals := 55 } : Room)) (hQ : C.Q = zQl C ({ frames := 2, cells := 0, slots := 0, locals := 55 } : Room) rr (I, (va_up J 47 y_v_stack), Rr, v_D)) (x4 : Int32) (x5 : Int32) (s1 : Int32) (s2 : Int64) (v_stack : (Nat → Int64)) (self : Int32 → Int32 → (Nat → Int64) → Option R_pJudge_valueOf) (ih : ∀ (x4 : Int32) (x5 : Int32) (v_stack : (Nat → Int64)), self x4 x5 v_stack = some (rr, y_v_stack) → zB C (0, 0) 10 [(0, .ref (C.X.1 + 46)), (1, va_rf (zq C.X a1)), (3, .int a3), (4, .int x4), (5, .int x5)] [] (I, (va_up J 47 v_stack), Rr, v_D)) (k176 : Int32 → (Nat → Int64) → Option R_pJudge_valueOf) (hk176 : ∀ (x4 : Int32) (v_stack : (Nat → Int64)), k176 x4 v_stack = some (rr, y_v_stack) → zB C (0, 0) 176 [(0, .ref (C.X.1 + 46)), (4, .int x4)] [] (I, (va_up J 47 v_stack), Rr, v_D)) (h : pJudge_valueOf_b127 N a1 a2 a3 v_D v_debt v_paid v_shire v_term self k176 x4 x5 s1 s2 v_stack = some (rr, y_v_stack)) : zB C (0, 0) 127 [(0, .ref (C.X.1 + 46)), (1, va_rf (zq C.X a1)), (3, .int a3), (4, .int x4), (5, .int x5)] [.long s2, .int s1, .ref (C.X.1 + 47)] (I, (va_up J 47 v_stack), Rr, v_D) := by
  obtain ⟨g10, h⟩ := gd_s h
  refine zb_last E 47 (by decide) zF_47 (f := v_stack) (zup_s) (ib_in g10) dX4_valueOf_127 (J2 := (va_up J 47 (vp_updL v_stack (ix s1) s2))) zn1 ?_
  refine zb_goto E dX4_valueOf_128 (tgt := 170) rfl ?_
  refine zb_iinc E dX4_valueOf_170 4 rfl (v := (x5 + 1)) rfl (by decide) (lv2 := [(5, .int (x5 + 1)), (0, .ref (C.X.1 + 46)), (1, va_rf (zq C.X a1)), (3, .int a3), (4, .int x4)]) rfl ?_
  refine zb_goto E dX4_valueOf_173 (tgt := 10) rfl ?_
  refine zb_sub [1, 2, 3, 4, 0] rfl ?_
  exact ih x4 (x5 + 1) (vp_updL v_stack (ix s1) s2) h
theorem c_X4_valueOf_b117 {C : zC} {I : Nat → Nat → Int32} {J : Nat → Nat → Int64} {Rr : Nat → Nat → Option Nat} {v_D : zD} (N : Nat) (a1 : (Option Nat)) (a2 : Int32) (a3 : Int32) (v_debt : Int64) (e_v_debt : J 46 3 = v_debt) (v_paid : Int64) (e_v_paid : J 46 4 = v_paid) (v_shire : Int32) (e_v_shire : I 46 1 = v_shire) (v_term : Int32) (e_v_term : I 46 2 = v_term) (rr : Int64) (y_v_stack : (Nat → Int64)) (E : zE C RX4 cX4_valueOf 7 (some .long) ({ frames := 2, cells := 0, slots := 0, locals := 55 } : Room)) (hQ : C.Q = zQl C ({ frames := 2, cells := 0, slots := 0, locals := 55 } : Room) rr (I, (va_up J 47 y_v_stack), Rr, v_D)) (x4 : Int32) (x5 : Int32) (s1 : Int32) (s2 : Int64) (s3 : Int32) (v_stack : (Nat → Int64)) (self : Int32 → Int32 → (Nat → Int64) → Option R_pJudge_valueOf) (ih : ∀ (x4 : Int32) (x5 : Int32) (v_stack : (Nat → Int64)), self x4 x5 v_stack = some (rr, y_v_stack) → zB C (0, 0) 10 [(0, .ref (C.X.1 + 46)), (1, va_rf (zq C.X a1)), (3, .int a3), (4, .int x4), (5, .int x5)] [] (I, (va_up J 47 v_stack), Rr, v_D)) (k176 : Int32 → (Nat → Int64) → Option R_pJudge_valueOf) (hk176 : ∀ (x4 : Int32) (v_stack : (Nat → Int64)), k176 x4 v_stack = some (rr, y_v_stack) → zB C (0, 0) 176 [(0, .ref (C.X.1 + 46)), (4, .int x4)] [] (I, (va_up J 47 v_stack), Rr, v_D)) (h : pJudge_valueOf_b117 N a1 a2 a3 v_D v_debt v_paid v_shire v_term self k176 x4 x5 s1 s2 s3 v_stack = some (rr, y_v_stack)) : zB C (0, 0) 117 [(0, .ref (C.X.1 + 46)), (1, va_rf (zq C.X a1)), (3, .int a3), (4, .int x4), (5, .int x5)] [.int s3, .long s2, .int s1, .ref (C.X.1 + 47)] (I, (va_up J 47 v_stack), Rr, v_D) := by
  refine zb_i2l E dX4_valueOf_117 ?_
  refine zb_lcmp E dX4_valueOf_118 ?_
  refine zb_if_ne E dX4_valueOf_119 (tgt := 126) rfl (fun hc => ?_) (fun hc => ?_)
  · have h := if_f h hc
    refine zb_lconst E dX4_valueOf_126 (v := 0) rfl ?_
    exact c_X4_valueOf_b127 N a1 a2 a3 v_debt e_v_debt v_paid e_v_paid v_shire e_v_shire v_term e_v_term rr y_v_stack E hQ x4 x5 s1 0 v_stack self ih k176 hk176 h
  · have h := if_t h hc
    refine zb_lconst E dX4_valueOf_122 (v := 1) rfl ?_
    refine zb_goto E dX4_valueOf_123 (tgt := 127) rfl ?_
    exact c_X4_valueOf_b127 N a1 a2 a3 v_debt e_v_debt v_paid e_v_paid v_shire e_v_shire v_term e_v_term rr y_v_stack E hQ x4 x5 s1 1 v_stack self ih k176 hk176 h
theorem c_X4_valueOf_b66 {C : zC} {I : Nat → Nat → Int32} {J : Nat → Nat → Int64} {Rr : Nat → Nat → Option Nat} {v_D : zD} (N : Nat) (a1 : (Option Nat)) (a2 : Int32) (a3 : Int32) (v_debt : Int64) (e_v_debt : J 46 3 = v_debt) (v_paid : Int64) (e_v_paid : J 46 4 = v_paid) (v_shire : Int32) (e_v_shire : I 46 1 = v_shire) (v_term : Int32) (e_v_term : I 46 2 = v_term) (rr : Int64) (y_v_stack : (Nat → Int64)) (E : zE C RX4 cX4_valueOf 7 (some .long) ({ frames := 2, cells := 0, slots := 0, locals := 55 } : Room)) (hQ : C.Q = zQl C ({ frames := 2, cells := 0, slots := 0, locals := 55 } : Room) rr (I, (va_up J 47 y_v_stack), Rr, v_D)) (x4 : Int32) (x5 : Int32) (s1 : Int32) (s2 : Int64) (v_stack : (Nat → Int64)) (self : Int32 → Int32 → (Nat → Int64) → Option R_pJudge_valueOf) (ih : ∀ (x4 : Int32) (x5 : Int32) (v_stack : (Nat → Int64)), self x4 x5 v_stack = some (rr, y_v_stack) → zB C (0, 0) 10 [(0, .ref (C.X.1 + 46)), (1, va_rf (zq C.X a1)), (3, .int a3), (4, .int x4), (5, .int x5)] [] (I, (va_up J 47 v_stack), Rr, v_D)) (k176 : Int32 → (Nat → Int64) → Option R_pJudge_valueOf) (hk176 : ∀ (x4 : Int32) (v_stack : (Nat → Int64)), k176 x4 v_stack = some (rr, y_v_stack) → zB C (0, 0) 176 [(0, .ref (C.X.1 + 46)), (4, .int x4)] [] (I, (va_up J 47 v_stack), Rr, v_D)) (h : pJudge_valueOf_b66 N a1 a2 a3 v_D v_debt v_paid v_shire v_term self k176 x4 x5 s1 s2 v_stack = some (rr, y_v_stack)) : zB C (0, 0) 66 [(0, .ref (C.X.1 + 46)), (1, va_rf (zq C.X a1)), (3, .int a3), (4, .int x4), (5, .int x5)] [.long s2, .int s1, .ref (C.X.1 + 47)] (I, (va_up J 47 v_stack), Rr, v_D) := by
  obtain ⟨g9, h⟩ := gd_s h
  refine zb_last E 47 (by decide) zF_47 (f := v_stack) (zup_s) (ib_in g9) dX4_valueOf_66 (J2 := (va_up J 47 (vp_updL v_stack (ix s1) s2))) zn1 ?_
  refine zb_iinc E dX4_valueOf_67 3 rfl (v := (x4 + 1)) rfl (by decide) (lv2 := [(4, .int (x4 + 1)), (0, .ref (C.X.1 + 46)), (1, va_rf (zq C.X a1)), (3, .int a3), (5, .int x5)]) rfl ?_
  refine zb_goto E dX4_valueOf_70 (tgt := 170) rfl ?_
  refine zb_iinc E dX4_valueOf_170 4 rfl (v := (x5 + 1)) rfl (by decide) (lv2 := [(5, .int (x5 + 1)), (4, .int (x4 + 1)), (0, .ref (C.X.1 + 46)), (1, va_rf (zq C.X a1)), (3, .int a3)]) rfl ?_
  refine zb_goto E dX4_valueOf_173 (tgt := 10) rfl ?_
  refine zb_sub [2, 3, 4, 1, 0] rfl ?_
  exact ih (x4 + 1) (x5 + 1) (vp_updL v_stack (ix s1) s2) h
theorem c_X4_valueOf_b10 {C : zC} {I : Nat → Nat → Int32} {J : Nat → Nat → Int64} {Rr : Nat → Nat → Option Nat} {v_D : zD} (N : Nat) (a1 : (Option Nat)) (a2 : Int32) (a3 : Int32) (v_debt : Int64) (e_v_debt : J 46 3 = v_debt) (v_paid : Int64) (e_v_paid : J 46 4 = v_paid) (v_shire : Int32) (e_v_shire : I 46 1 = v_shire) (v_term : Int32) (e_v_term : I 46 2 = v_term) (rr : Int64) (y_v_stack : (Nat → Int64)) (E : zE C RX4 cX4_valueOf 7 (some .long) ({ frames := 2, cells := 0, slots := 0, locals := 55 } : Room)) (hQ : C.Q = zQl C ({ frames := 2, cells := 0, slots := 0, locals := 55 } : Room) rr (I, (va_up J 47 y_v_stack), Rr, v_D)) (k176 : Int32 → (Nat → Int64) → Option R_pJudge_valueOf) (hk176 : ∀ (x4 : Int32) (v_stack : (Nat → Int64)), k176 x4 v_stack = some (rr, y_v_stack) → zB C (0, 0) 176 [(0, .ref (C.X.1 + 46)), (4, .int x4)] [] (I, (va_up J 47 v_stack), Rr, v_D)) : ∀ (n9 : Nat) (x4 : Int32) (x5 : Int32) (v_stack : (Nat → Int64)), pJudge_valueOf_b10 N a1 a2 a3 v_D v_debt v_paid v_shire v_term k176 n9 x4 x5 v_stack = some (rr, y_v_stack) → zB C (0, 0) 10 [(0, .ref (C.X.1 + 46)), (1, va_rf (zq C.X a1)), (3, .int a3), (4, .int x4), (5, .int x5)] [] (I, (va_up J 47 v_stack), Rr, v_D) := by
  refine zlp3_ind (P := fun (x4 : Int32) (x5 : Int32) (v_stack : (Nat → Int64)) => zB C (0, 0) 10 [(0, .ref (C.X.1 + 46)), (1, va_rf (zq C.X a1)), (3, .int a3), (4, .int x4), (5, .int x5)] [] (I, (va_up J 47 v_stack), Rr, v_D)) (fun self ih => ?_)
  intro x4 x5 v_stack h
  refine zb_iload E dX4_valueOf_10 4 rfl ?_
  refine zb_iload_n E dX4_valueOf_12 2 rfl rfl ?_
  refine zb_icmp_ge E dX4_valueOf_13 (tgt := 176) rfl (fun hc => ?_) (fun hc => ?_)
  · have h := if_t h hc
    refine zb_sub [0, 3] rfl ?_
    exact hk176 x4 v_stack h
  · have h := if_f h hc
    refine zb_iload E dX4_valueOf_16 4 rfl ?_
    refine zb_aload_nQ E dX4_valueOf_18 1 rfl rfl ?_
    obtain ⟨y1, hq_y1, h⟩ := bd1_s h
    refine zb_LS (lv2 := [(0, .ref (C.X.1 + 46)), (1, .ref (C.X.1 + 182 + y1)), (3, .int a3), (4, .int x4), (5, .int x5)]) (st2 := [.ref (C.X.1 + 182 + y1), .int x5]) (by first | rfl | (rw [hq_y1]; rfl)) (by first | rfl | (rw [hq_y1]; rfl)) ?_
    obtain ⟨n2, hb_n2, h⟩ := bd1_s h
    refine zb_dlenI E hb_n2 dX4_valueOf_19 ?_
    refine zb_icmp_ge E dX4_valueOf_20 (tgt := 176) rfl (fun hc => ?_) (fun hc => ?_)
    · have h := if_t h hc
      refine zb_sub [0, 3] rfl ?_
      exact hk176 x4 v_stack h
    · have h := if_f h hc
      refine zb_aload_n E dX4_valueOf_23 1 rfl rfl ?_
      refine zb_iload E dX4_valueOf_24 4 rfl ?_
      obtain ⟨d3, hb_d3, h⟩ := bd1_s h
      refine zb_dald E hb_d3 dX4_valueOf_26 ?_
      refine zb_istore E dX4_valueOf_27 (by decide) (lv2 := [(6, .int d3), (0, .ref (C.X.1 + 46)), (1, .ref (C.X.1 + 182 + y1)), (3, .int a3), (4, .int x4), (5, .int x5)]) rfl ?_
      refine zb_iload E dX4_valueOf_29 0 rfl ?_
      refine zb_bipush E dX4_valueOf_31 (v := (-4)) rfl ?_
      refine zb_icmp_lt E dX4_valueOf_33 (tgt := 73) rfl (fun hc => ?_) (fun hc => ?_)
      · have h := if_t h hc
        refine zb_iload E dX4_valueOf_73 0 rfl ?_
        refine zb_bipush E dX4_valueOf_75 (v := (-6)) rfl ?_
        refine zb_icmp_lt E dX4_valueOf_77 (tgt := 131) rfl (fun hc => ?_) (fun hc => ?_)
        · have h := if_t h hc
          refine zb_iload E dX4_valueOf_131 4 rfl ?_
          refine zb_iconst E dX4_valueOf_133 (v := 1) rfl ?_
          refine zb_icmp_le E dX4_valueOf_134 (tgt := 170) rfl (fun hc => ?_) (fun hc => ?_)
          · have h := if_t h hc
            refine zb_iinc E dX4_valueOf_170 5 rfl (v := (x5 + 1)) rfl (by decide) (lv2 := [(5, .int (x5 + 1)), (6, .int d3), (0, .ref (C.X.1 + 46)), (1, .ref (C.X.1 + 182 + y1)), (3, .int a3), (4, .int x4)]) rfl ?_
            refine zb_goto E dX4_valueOf_173 (tgt := 10) rfl ?_
            refine zb_sub [2, 3, 4, 5, 0] rfl ?_
            refine zb_LS (lv2 := [(0, .ref (C.X.1 + 46)), (1, va_rf (zq C.X a1)), (3, .int a3), (4, .int x4), (5, .int (x5 + 1))]) (by first | (rw [hq_y1]; done) | (rw [hq_y1]; rfl)) rfl ?_
            exact ih x4 (x5 + 1) v_stack h
          · have h := if_f h hc
            refine zb_iinc E dX4_valueOf_137 4 rfl (v := (x4 + (-1))) rfl (by decide) (lv2 := [(4, .int (x4 + (-1))), (6, .int d3), (0, .ref (C.X.1 + 46)), (1, .ref (C.X.1 + 182 + y1)), (3, .int a3), (5, .int x5)]) rfl ?_
            refine zb_aload_n E dX4_valueOf_140 2 rfl rfl ?_
            refine zb_getX E 46 (by decide) (zF_46 C.X) rfl zin4 0 (by decide) zw_233 rfl (zup_n (by decide : (46 : Nat) ≠ 47)) (v := .ref (C.X.1 + 47)) rfl dX4_valueOf_141 ?_
            refine zb_iload E dX4_valueOf_144 0 rfl ?_
            refine zb_iconst E dX4_valueOf_146 (v := 1) rfl ?_
            refine zb_isub E dX4_valueOf_147 ?_
            refine zb_iload E dX4_valueOf_148 1 rfl ?_
            refine zb_aload_n E dX4_valueOf_150 2 rfl rfl ?_
            refine zb_getX E 46 (by decide) (zF_46 C.X) rfl zin4 0 (by decide) zw_233 rfl (zup_n (by decide : (46 : Nat) ≠ 47)) (v := .ref (C.X.1 + 47)) rfl dX4_valueOf_151 ?_
            refine zb_iload E dX4_valueOf_154 0 rfl ?_
            refine zb_iconst E dX4_valueOf_156 (v := 1) rfl ?_
            refine zb_isub E dX4_valueOf_157 ?_
            obtain ⟨g4, h⟩ := gd_s h
            refine zb_lald E 47 (by decide) zF_47 (f := v_stack) (zup_s) (ib_in g4) dX4_valueOf_158 ?_
            refine zb_aload_n E dX4_valueOf_159 2 rfl rfl ?_
            refine zb_getX E 46 (by decide) (zF_46 C.X) rfl zin4 0 (by decide) zw_233 rfl (zup_n (by decide : (46 : Nat) ≠ 47)) (v := .ref (C.X.1 + 47)) rfl dX4_valueOf_160 ?_
            refine zb_iload E dX4_valueOf_163 0 rfl ?_
            obtain ⟨g5, h⟩ := gd_s h
            refine zb_lald E 47 (by decide) zF_47 (f := v_stack) (zup_s) (ib_in g5) dX4_valueOf_165 ?_
            obtain ⟨rc6, hc_166, h⟩ := bd1_s h
            refine zb_cSl E [.int d3, .long (v_stack (ix ((x4 + (-1)) - 1))), .long (v_stack (ix (x4 + (-1))))] zy_X4_together zw_1019 (c_X4_together hc_166) (by decide) rfl rfl (by first | decide | simp [Value.category, zva_cat]) dX4_valueOf_166 (cs2 := (0, 0)) rfl ?_
            refine zb_last E 47 (by decide) zF_47 (f := v_stack) (zup_s) (ib_in g4) dX4_valueOf_169 (J2 := (va_up J 47 (vp_updL v_stack (ix ((x4 + (-1)) - 1)) rc6))) zn1 ?_
            refine zb_iinc E dX4_valueOf_170 5 rfl (v := (x5 + 1)) rfl (by decide) (lv2 := [(5, .int (x5 + 1)), (4, .int (x4 + (-1))), (6, .int d3), (0, .ref (C.X.1 + 46)), (1, .ref (C.X.1 + 182 + y1)), (3, .int a3)]) rfl ?_
            refine zb_goto E dX4_valueOf_173 (tgt := 10) rfl ?_
            refine zb_sub [3, 4, 5, 1, 0] rfl ?_
            refine zb_LS (lv2 := [(0, .ref (C.X.1 + 46)), (1, va_rf (zq C.X a1)), (3, .int a3), (4, .int (x4 + (-1))), (5, .int (x5 + 1))]) (by first | (rw [hq_y1]; done) | (rw [hq_y1]; rfl)) rfl ?_
            exact ih (x4 + (-1)) (x5 + 1) (vp_updL v_stack (ix ((x4 + (-1)) - 1)) rc6) h
        · have h := if_f h hc
          refine zb_iload E dX4_valueOf_80 4 rfl ?_
          refine zb_if_le E dX4_valueOf_82 (tgt := 170) rfl (fun hc => ?_) (fun hc => ?_)
          · have h := if_t h hc
            refine zb_iinc E dX4_valueOf_170 5 rfl (v := (x5 + 1)) rfl (by decide) (lv2 := [(5, .int (x5 + 1)), (6, .int d3), (0, .ref (C.X.1 + 46)), (1, .ref (C.X.1 + 182 + y1)), (3, .int a3), (4, .int x4)]) rfl ?_
            refine zb_goto E dX4_valueOf_173 (tgt := 10) rfl ?_
            refine zb_sub [2, 3, 4, 5, 0] rfl ?_
            refine zb_LS (lv2 := [(0, .ref (C.X.1 + 46)), (1, va_rf (zq C.X a1)), (3, .int a3), (4, .int x4), (5, .int (x5 + 1))]) (by first | (rw [hq_y1]; done) | (rw [hq_y1]; rfl)) rfl ?_
            exact ih x4 (x5 + 1) v_stack h
          · have h := if_f h hc
            refine zb_aload_n E dX4_valueOf_85 1 rfl rfl ?_
            refine zb_getX E 46 (by decide) (zF_46 C.X) rfl zin4 0 (by decide) zw_233 rfl (zup_n (by decide : (46 : Nat) ≠ 47)) (v := .ref (C.X.1 + 47)) rfl dX4_valueOf_86 ?_
            refine zb_iload E dX4_valueOf_89 4 rfl ?_
            refine zb_iconst E dX4_valueOf_91 (v := 1) rfl ?_
            refine zb_isub E dX4_valueOf_92 ?_
            refine zb_aload_n E dX4_valueOf_93 1 rfl rfl ?_
            refine zb_getX E 46 (by decide) (zF_46 C.X) rfl zin4 0 (by decide) zw_233 rfl (zup_n (by decide : (46 : Nat) ≠ 47)) (v := .ref (C.X.1 + 47)) rfl dX4_valueOf_94 ?_
            refine zb_iload E dX4_valueOf_97 4 rfl ?_
            refine zb_iconst E dX4_valueOf_99 (v := 1) rfl ?_
            refine zb_isub E dX4_valueOf_100 ?_
            obtain ⟨g7, h⟩ := gd_s h
            refine zb_lald E 47 (by decide) zF_47 (f := v_stack) (zup_s) (ib_in g7) dX4_valueOf_101 ?_
            refine zb_iload E dX4_valueOf_102 0 rfl ?_
            refine zb_bipush E dX4_valueOf_104 (v := (-6)) rfl ?_
            refine zb_icmp_ne E dX4_valueOf_106 (tgt := 116) rfl (fun hc => ?_) (fun hc => ?_)
            · have h := if_f h hc
              refine zb_iconst E dX4_valueOf_116 (v := 0) rfl ?_
              refine zb_sub [1, 2, 3, 4, 5] rfl ?_
              refine zb_LS (lv2 := [(0, .ref (C.X.1 + 46)), (1, va_rf (zq C.X a1)), (3, .int a3), (4, .int x4), (5, .int x5)]) (by first | (rw [hq_y1]; done) | (rw [hq_y1]; rfl)) rfl ?_
              exact c_X4_valueOf_b117 N a1 a2 a3 v_debt e_v_debt v_paid e_v_paid v_shire e_v_shire v_term e_v_term rr y_v_stack E hQ x4 x5 (x4 - 1) (v_stack (ix (x4 - 1))) 0 v_stack self ih k176 hk176 h
            · have h := if_t h hc
              refine zb_aload_n E dX4_valueOf_109 1 rfl rfl ?_
              refine zb_getX E 46 (by decide) (zF_46 C.X) rfl zin4 1 (by decide) zw_234 rfl (zup_n (by decide : (46 : Nat) ≠ 47)) (v := .int v_shire) (by exact congrArg (fun z => some (Value.int z)) e_v_shire) dX4_valueOf_110 ?_
              refine zb_goto E dX4_valueOf_113 (tgt := 117) rfl ?_
              refine zb_sub [1, 2, 3, 4, 5] rfl ?_
              refine zb_LS (lv2 := [(0, .ref (C.X.1 + 46)), (1, va_rf (zq C.X a1)), (3, .int a3), (4, .int x4), (5, .int x5)]) (by first | (rw [hq_y1]; done) | (rw [hq_y1]; rfl)) rfl ?_
              exact c_X4_valueOf_b117 N a1 a2 a3 v_debt e_v_debt v_paid e_v_paid v_shire e_v_shire v_term e_v_term rr y_v_stack E hQ x4 x5 (x4 - 1) (v_stack (ix (x4 - 1))) v_shire v_stack self ih k176 hk176 h
      · have h := if_f h hc
        refine zb_iload E dX4_valueOf_36 4 rfl ?_
        refine zb_bipush E dX4_valueOf_38 (v := 64) rfl ?_
        refine zb_icmp_ge E dX4_valueOf_40 (tgt := 170) rfl (fun hc => ?_) (fun hc => ?_)
        · have h := if_t h hc
          refine zb_iinc E dX4_valueOf_170 5 rfl (v := (x5 + 1)) rfl (by decide) (lv2 := [(5, .int (x5 + 1)), (6, .int d3), (0, .ref (C.X.1 + 46)), (1, .ref (C.X.1 + 182 + y1)), (3, .int a3), (4, .int x4)]) rfl ?_
          refine zb_goto E dX4_valueOf_173 (tgt := 10) rfl ?_
          refine zb_sub [2, 3, 4, 5, 0] rfl ?_
          refine zb_LS (lv2 := [(0, .ref (C.X.1 + 46)), (1, va_rf (zq C.X a1)), (3, .int a3), (4, .int x4), (5, .int (x5 + 1))]) (by first | (rw [hq_y1]; done) | (rw [hq_y1]; rfl)) rfl ?_
          exact ih x4 (x5 + 1) v_stack h
        · have h := if_f h hc
          refine zb_aload_n E dX4_valueOf_43 1 rfl rfl ?_
          refine zb_getX E 46 (by decide) (zF_46 C.X) rfl zin4 0 (by decide) zw_233 rfl (zup_n (by decide : (46 : Nat) ≠ 47)) (v := .ref (C.X.1 + 47)) rfl dX4_valueOf_44 ?_
          refine zb_iload E dX4_valueOf_47 4 rfl ?_
          refine zb_iload E dX4_valueOf_49 0 rfl ?_
          refine zb_if_lt E dX4_valueOf_51 (tgt := 60) rfl (fun hc => ?_) (fun hc => ?_)
          · have h := if_t h hc
            refine zb_aload_n E dX4_valueOf_60 1 rfl rfl ?_
            refine zb_iload E dX4_valueOf_61 0 rfl ?_
            obtain ⟨rc8, hc_63, h⟩ := bd1_s h
            refine zb_cVl E [.int d3] 46 zy_X4_present zw_1015 (by decide) (zF_46 _ _ _ _) rfl (c_X4_present v_debt (zcf (f := ((va_up J 47 v_stack) 46)) (zup_n (by decide : (46 : Nat) ≠ 47)) (by exact e_v_debt)) v_paid (zcf (f := ((va_up J 47 v_stack) 46)) (zup_n (by decide : (46 : Nat) ≠ 47)) (by exact e_v_paid)) v_term (zcf (f := (I 46)) rfl (by exact e_v_term)) hc_63) (by decide) rfl rfl (by first | decide | simp [Value.category, zva_cat]) dX4_valueOf_63 (cs2 := (0, 0)) rfl ?_
            refine zb_sub [1, 2, 3, 4, 5] rfl ?_
            refine zb_LS (lv2 := [(0, .ref (C.X.1 + 46)), (1, va_rf (zq C.X a1)), (3, .int a3), (4, .int x4), (5, .int x5)]) (by first | (rw [hq_y1]; done) | (rw [hq_y1]; rfl)) rfl ?_
            exact c_X4_valueOf_b66 N a1 a2 a3 v_debt e_v_debt v_paid e_v_paid v_shire e_v_shire v_term e_v_term rr y_v_stack E hQ x4 x5 x4 rc8 v_stack self ih k176 hk176 h
          · have h := if_f h hc
            refine zb_iload E dX4_valueOf_54 0 rfl ?_
            refine zb_i2l E dX4_valueOf_56 ?_
            refine zb_goto E dX4_valueOf_57 (tgt := 66) rfl ?_
            refine zb_sub [1, 2, 3, 4, 5] rfl ?_
            refine zb_LS (lv2 := [(0, .ref (C.X.1 + 46)), (1, va_rf (zq C.X a1)), (3, .int a3), (4, .int x4), (5, .int x5)]) (by first | (rw [hq_y1]; done) | (rw [hq_y1]; rfl)) rfl ?_
            exact c_X4_valueOf_b66 N a1 a2 a3 v_debt e_v_debt v_paid e_v_paid v_shire e_v_shire v_term e_v_term rr y_v_stack E hQ x4 x5 x4 (i2l d3) v_stack self ih k176 hk176 h
theorem c_X4_valueOf_b176 {C : zC} {I : Nat → Nat → Int32} {J : Nat → Nat → Int64} {Rr : Nat → Nat → Option Nat} {v_D : zD} (N : Nat) (a1 : (Option Nat)) (a2 : Int32) (a3 : Int32) (v_debt : Int64) (e_v_debt : J 46 3 = v_debt) (v_paid : Int64) (e_v_paid : J 46 4 = v_paid) (v_shire : Int32) (e_v_shire : I 46 1 = v_shire) (v_term : Int32) (e_v_term : I 46 2 = v_term) (rr : Int64) (y_v_stack : (Nat → Int64)) (E : zE C RX4 cX4_valueOf 7 (some .long) ({ frames := 2, cells := 0, slots := 0, locals := 55 } : Room)) (hQ : C.Q = zQl C ({ frames := 2, cells := 0, slots := 0, locals := 55 } : Room) rr (I, (va_up J 47 y_v_stack), Rr, v_D)) (x4 : Int32) (v_stack : (Nat → Int64)) (h : pJudge_valueOf_b176 N a1 a2 a3 v_D v_debt v_paid v_shire v_term x4 v_stack = some (rr, y_v_stack)) : zB C (0, 0) 176 [(0, .ref (C.X.1 + 46)), (4, .int x4)] [] (I, (va_up J 47 v_stack), Rr, v_D) := by
  refine zb_iload E dX4_valueOf_176 1 rfl ?_
  refine zb_if_le E dX4_valueOf_178 (tgt := 190) rfl (fun hc => ?_) (fun hc => ?_)
  · have h := if_t h hc
    refine zb_lconst E dX4_valueOf_190 (v := 0) rfl ?_
    obtain ⟨rfl, rfl⟩ := zinj2 h
    exact zb_lret E hQ rfl ⟨Nat.zero_le _, Nat.zero_le _⟩ dX4_valueOf_191
  · have h := if_f h hc
    refine zb_aload_n E dX4_valueOf_181 0 rfl rfl ?_
    refine zb_getX E 46 (by decide) (zF_46 C.X) rfl zin4 0 (by decide) zw_233 rfl (zup_n (by decide : (46 : Nat) ≠ 47)) (v := .ref (C.X.1 + 47)) rfl dX4_valueOf_182 ?_
    refine zb_iconst E dX4_valueOf_185 (v := 0) rfl ?_
    refine zb_lald E 47 (by decide) zF_47 (f := v_stack) (zup_s) (ib_in (by decide)) dX4_valueOf_186 ?_
    refine zb_goto E dX4_valueOf_187 (tgt := 191) rfl ?_
    obtain ⟨rfl, rfl⟩ := zinj2 h
    exact zb_lret E hQ rfl ⟨Nat.zero_le _, Nat.zero_le _⟩ dX4_valueOf_191
theorem c_X4_valueOf_0 {C : zC} {I : Nat → Nat → Int32} {J : Nat → Nat → Int64} {Rr : Nat → Nat → Option Nat} {v_D : zD} (N : Nat) (a1 : (Option Nat)) (a2 : Int32) (a3 : Int32) (v_debt : Int64) (e_v_debt : J 46 3 = v_debt) (v_paid : Int64) (e_v_paid : J 46 4 = v_paid) (v_shire : Int32) (e_v_shire : I 46 1 = v_shire) (v_term : Int32) (e_v_term : I 46 2 = v_term) (rr : Int64) (y_v_stack : (Nat → Int64)) (E : zE C RX4 cX4_valueOf 7 (some .long) ({ frames := 2, cells := 0, slots := 0, locals := 55 } : Room)) (hQ : C.Q = zQl C ({ frames := 2, cells := 0, slots := 0, locals := 55 } : Room) rr (I, (va_up J 47 y_v_stack), Rr, v_D)) (v_stack : (Nat → Int64)) (h : pJudge_valueOf N a1 a2 a3 v_D v_debt v_paid v_shire v_term v_stack = some (rr, y_v_stack)) : zB C (0, 0) 0 [(0, .ref (C.X.1 + 46)), (1, va_rf (zq C.X a1)), (2, .int a2), (3, .int a3)] [] (I, (va_up J 47 v_stack), Rr, v_D) := by
  refine zb_iconst E dX4_valueOf_0 (v := 0) rfl ?_
  refine zb_istore E dX4_valueOf_1 (by decide) (lv2 := [(4, .int 0), (0, .ref (C.X.1 + 46)), (1, va_rf (zq C.X a1)), (2, .int a2), (3, .int a3)]) rfl ?_
  refine zb_iload_n E dX4_valueOf_3 3 rfl rfl ?_
  refine zb_iconst E dX4_valueOf_4 (v := 0) rfl ?_
  refine zb_mmax E zYm_mmax zw_1014 (by decide) (by first | decide | simp [Value.category, zva_cat]) dX4_valueOf_5 ?_
  refine zb_istore E dX4_valueOf_8 (by decide) (lv2 := [(5, .int (m_max a2 0)), (4, .int 0), (0, .ref (C.X.1 + 46)), (1, va_rf (zq C.X a1)), (2, .int a2), (3, .int a3)]) rfl ?_
  refine zb_sub [2, 3, 5, 1, 0] rfl ?_
  exact c_X4_valueOf_b10 N a1 a2 a3 v_debt e_v_debt v_paid e_v_paid v_shire e_v_shire v_term e_v_term rr y_v_stack E hQ _ (fun x4_z1 v_stack_z2 h => c_X4_valueOf_b176 N a1 a2 a3 v_debt e_v_debt v_paid e_v_paid v_shire e_v_shire v_term e_v_term rr y_v_stack E hQ x4_z1 v_stack_z2 h) _ 0 (m_max a2 0) v_stack h
theorem c_X4_valueOf {l : Launch} {X : zX} {I : Nat → Nat → Int32} {J : Nat → Nat → Int64} {Rr : Nat → Nat → Option Nat} {v_D : zD} {N : Nat} {a1 : (Option Nat)} {a2 : Int32} {a3 : Int32} (v_debt : Int64) (e_v_debt : J 46 3 = v_debt) (v_paid : Int64) (e_v_paid : J 46 4 = v_paid) (v_shire : Int32) (e_v_shire : I 46 1 = v_shire) (v_term : Int32) (e_v_term : I 46 2 = v_term) (v_stack : (Nat → Int64)) (e_v_stack : J 47 = v_stack) {rr : Int64} {y_v_stack : (Nat → Int64)} (h : pJudge_valueOf N a1 a2 a3 v_D v_debt v_paid v_shire v_term v_stack = some (rr, y_v_stack)) : zMl l yX4_valueOf cX4_valueOf 7 (some .long) ({ frames := 2, cells := 0, slots := 0, locals := 55 } : Room) X [.ref (X.1 + 46), va_rf (zq X a1), .int a2, .int a3] (I, J, Rr, v_D) rr (I, (va_up J 47 y_v_stack), Rr, v_D) := by
  refine zMl.of (by decide) (by generalize zq X a1 = z9; cases z9 <;> exact Nat.le_of_ble_eq_true rfl) (fun C E hl hX hQ => ?_)
  subst hl
  subst hX
  refine zb_LS (lv2 := [(0, .ref (C.X.1 + 46)), (1, va_rf (zq C.X a1)), (2, .int a2), (3, .int a3)]) (by generalize zq C.X a1 = z9; cases z9 <;> rfl) rfl ?_
  have eI0 : I = I := rfl
  have eJ0 : (va_up J 47 v_stack) = J := by rw [zup_idE e_v_stack]
  refine zb_S (S2 := (I, (va_up J 47 v_stack), Rr, v_D)) (zS_eq eI0.symm eJ0.symm) ?_
  exact c_X4_valueOf_0 N a1 a2 a3 v_debt e_v_debt v_paid e_v_paid v_shire e_v_shire v_term e_v_term rr y_v_stack E hQ v_stack h
