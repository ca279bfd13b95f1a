set_option maxHeartbeats 4000000
set_option maxRecDepth 100000
-- ChequeredCloth$Judge.setMoment
abbrev R_pJudge_setMoment : Type := Int64 × Int64 × Int32 × Int32
def pJudge_setMoment (a1 : Int32) (a2 : Int32) (a3 : Int64) (a5 : Int64) (v_debt : Int64) (v_paid : Int64) (v_shire : Int32) (v_term : Int32) : Option R_pJudge_setMoment :=
  some ((m_minL 1000000000 (m_maxL (-1000000000) a3)), (m_minL 1000000000 (m_maxL (-1000000000) a5)), a1, a2)
theorem dX4_setMoment_0 : decode cX4_setMoment 0 = .ok (.aload_n 0, 1) := by decide +kernel
theorem dX4_setMoment_1 : decode cX4_setMoment 1 = .ok (.iload_n 1, 1) := by decide +kernel
theorem dX4_setMoment_2 : decode cX4_setMoment 2 = .ok (.putfield 13, 3) := by decide +kernel
theorem dX4_setMoment_5 : decode cX4_setMoment 5 = .ok (.aload_n 0, 1) := by decide +kernel
theorem dX4_setMoment_6 : decode cX4_setMoment 6 = .ok (.iload_n 2, 1) := by decide +kernel
theorem dX4_setMoment_7 : decode cX4_setMoment 7 = .ok (.putfield 17, 3) := by decide +kernel
theorem dX4_setMoment_10 : decode cX4_setMoment 10 = .ok (.aload_n 0, 1) := by decide +kernel
theorem dX4_setMoment_11 : decode cX4_setMoment 11 = .ok (.ldc2_w 20, 3) := by decide +kernel
theorem dX4_setMoment_14 : decode cX4_setMoment 14 = .ok (.ldc2_w 22, 3) := by decide +kernel
theorem dX4_setMoment_17 : decode cX4_setMoment 17 = .ok (.lload_n 3, 1) := by decide +kernel
theorem dX4_setMoment_18 : decode cX4_setMoment 18 = .ok (.invokestatic 24, 3) := by decide +kernel
theorem dX4_setMoment_21 : decode cX4_setMoment 21 = .ok (.invokestatic 30, 3) := by decide +kernel
theorem dX4_setMoment_24 : decode cX4_setMoment 24 = .ok (.putfield 33, 3) := by decide +kernel
theorem dX4_setMoment_27 : decode cX4_setMoment 27 = .ok (.aload_n 0, 1) := by decide +kernel
theorem dX4_setMoment_28 : decode cX4_setMoment 28 = .ok (.ldc2_w 20, 3) := by decide +kernel
theorem dX4_setMoment_31 : decode cX4_setMoment 31 = .ok (.ldc2_w 22, 3) := by decide +kernel
theorem dX4_setMoment_34 : decode cX4_setMoment 34 = .ok (.lload 5, 2) := by decide +kernel
theorem dX4_setMoment_36 : decode cX4_setMoment 36 = .ok (.invokestatic 24, 3) := by decide +kernel
theorem dX4_setMoment_39 : decode cX4_setMoment 39 = .ok (.invokestatic 30, 3) := by decide +kernel
theorem dX4_setMoment_42 : decode cX4_setMoment 42 = .ok (.putfield 37, 3) := by decide +kernel
theorem dX4_setMoment_45 : decode cX4_setMoment 45 = .ok (.return_, 1) := by decide +kernel
theorem zy_X4_setMoment : zYv yX4_setMoment cX4_setMoment 7 none 4 := ⟨zw_999, zw_1000, zw_9, zw_1001, by decide, by decide, by decide⟩
theorem c_X4_setMoment_0 {C : zC} {I : Nat → Nat → Int32} {J : Nat → Nat → Int64} {Rr : Nat → Nat → Option Nat} {D : zD} (a1 : Int32) (a2 : Int32) (a3 : Int64) (a5 : Int64) (y_v_debt : Int64) (y_v_paid : Int64) (y_v_shire : Int32) (y_v_term : Int32) (E : zE C RX4 cX4_setMoment 7 none ({ frames := 1, cells := 0, slots := 0, locals := 31 } : Room)) (hQ : C.Q = zQv C ({ frames := 1, cells := 0, slots := 0, locals := 31 } : Room) ((va_up I 46 (va_up (va_up (I 46) 1 y_v_shire) 2 y_v_term)), (va_up J 46 (va_up (va_up (J 46) 3 y_v_debt) 4 y_v_paid)), Rr, D)) (v_debt : Int64) (v_paid : Int64) (v_shire : Int32) (v_term : Int32) (h : pJudge_setMoment a1 a2 a3 a5 v_debt v_paid v_shire v_term = some (y_v_debt, y_v_paid, y_v_shire, y_v_term)) : zB C (0, 0) 0 [(0, .ref (C.X.1 + 46)), (1, .int a1), (2, .int a2), (3, .long a3), (5, .long a5)] [] ((va_up I 46 (va_up (va_up (I 46) 1 v_shire) 2 v_term)), (va_up J 46 (va_up (va_up (J 46) 3 v_debt) 4 v_paid)), Rr, D) := by
  refine zb_aload_n E dX4_setMoment_0 0 rfl rfl ?_
  refine zb_iload_n E dX4_setMoment_1 1 rfl rfl ?_
  refine zb_put E 46 (by decide) (zF_46 C.X) rfl zin4 1 (by decide) zw_234 tyX4 tyX4_ok nmX4 rfl rfl rfl (I2 := (va_up I 46 (va_up (va_up (I 46) 1 a1) 2 v_term))) (J2 := (va_up J 46 (va_up (va_up (J 46) 3 v_debt) 4 v_paid))) ((zset4_1 C.X (va_up (va_up (I 46) 1 v_shire) 2 v_term) (va_up (va_up (J 46) 3 v_debt) 4 v_paid) a1).trans (congrArg (fun g => zf4 C.X g (va_up (va_up (J 46) 3 v_debt) 4 v_paid)) (zn2 (by decide : (2 : Nat) ≠ 1)))) (by rw [zflen4]; decide) (fun j hj => ⟨(zup_n hj).trans (zup_n hj).symm, rfl⟩) dX4_setMoment_2 ?_
  refine zb_aload_n E dX4_setMoment_5 0 rfl rfl ?_
  refine zb_iload_n E dX4_setMoment_6 2 rfl rfl ?_
  refine zb_put E 46 (by decide) (zF_46 C.X) rfl zin4 2 (by decide) zw_235 tyX4 tyX4_ok nmX4 rfl rfl rfl (I2 := (va_up I 46 (va_up (va_up (I 46) 1 a1) 2 a2))) (J2 := (va_up J 46 (va_up (va_up (J 46) 3 v_debt) 4 v_paid))) ((zset4_2 C.X (va_up (va_up (I 46) 1 a1) 2 v_term) (va_up (va_up (J 46) 3 v_debt) 4 v_paid) a2).trans (congrArg (fun g => zf4 C.X g (va_up (va_up (J 46) 3 v_debt) 4 v_paid)) zn1)) (by rw [zflen4]; decide) (fun j hj => ⟨(zup_n hj).trans (zup_n hj).symm, rfl⟩) dX4_setMoment_7 ?_
  refine zb_aload_n E dX4_setMoment_10 0 rfl rfl ?_
  refine zb_ldc2 E dX4_setMoment_11 (v := 1000000000) zw_1002 ?_
  refine zb_ldc2 E dX4_setMoment_14 (v := (-1000000000)) zw_1003 ?_
  refine zb_lload_n E dX4_setMoment_17 3 rfl rfl ?_
  refine zb_mmaxL E zYm_mmaxL zw_1004 (by decide) (by first | decide | simp [Value.category]) dX4_setMoment_18 ?_
  refine zb_mminL E zYm_mminL zw_1007 (by decide) (by first | decide | simp [Value.category]) dX4_setMoment_21 ?_
  refine zb_put E 46 (by decide) (zF_46 C.X) rfl zin4 3 (by decide) zw_236 tyX4 tyX4_ok nmX4 rfl rfl rfl (I2 := (va_up I 46 (va_up (va_up (I 46) 1 a1) 2 a2))) (J2 := (va_up J 46 (va_up (va_up (J 46) 3 (m_minL 1000000000 (m_maxL (-1000000000) a3))) 4 v_paid))) ((zset4_3 C.X (va_up (va_up (I 46) 1 a1) 2 a2) (va_up (va_up (J 46) 3 v_debt) 4 v_paid) (m_minL 1000000000 (m_maxL (-1000000000) a3))).trans (congrArg (fun g => zf4 C.X (va_up (va_up (I 46) 1 a1) 2 a2) g) (zn2 (by decide : (4 : Nat) ≠ 3)))) (by rw [zflen4]; decide) (fun j hj => ⟨rfl, (zup_n hj).trans (zup_n hj).symm⟩) dX4_setMoment_24 ?_
  refine zb_aload_n E dX4_setMoment_27 0 rfl rfl ?_
  refine zb_ldc2 E dX4_setMoment_28 (v := 1000000000) zw_1002 ?_
  refine zb_ldc2 E dX4_setMoment_31 (v := (-1000000000)) zw_1003 ?_
  refine zb_lload E dX4_setMoment_34 4 rfl ?_
  refine zb_mmaxL E zYm_mmaxL zw_1004 (by decide) (by first | decide | simp [Value.category]) dX4_setMoment_36 ?_
  refine zb_mminL E zYm_mminL zw_1007 (by decide) (by first | decide | simp [Value.category]) dX4_setMoment_39 ?_
  refine zb_put E 46 (by decide) (zF_46 C.X) rfl zin4 4 (by decide) zw_237 tyX4 tyX4_ok nmX4 rfl rfl rfl (I2 := (va_up I 46 (va_up (va_up (I 46) 1 a1) 2 a2))) (J2 := (va_up J 46 (va_up (va_up (J 46) 3 (m_minL 1000000000 (m_maxL (-1000000000) a3))) 4 (m_minL 1000000000 (m_maxL (-1000000000) a5))))) ((zset4_4 C.X (va_up (va_up (I 46) 1 a1) 2 a2) (va_up (va_up (J 46) 3 (m_minL 1000000000 (m_maxL (-1000000000) a3))) 4 v_paid) (m_minL 1000000000 (m_maxL (-1000000000) a5))).trans (congrArg (fun g => zf4 C.X (va_up (va_up (I 46) 1 a1) 2 a2) g) zn1)) (by rw [zflen4]; decide) (fun j hj => ⟨rfl, (zup_n hj).trans (zup_n hj).symm⟩) dX4_setMoment_42 ?_
  obtain ⟨rfl, rfl, rfl, rfl⟩ := zinj4 h
  exact zb_vret E hQ rfl (by decide) dX4_setMoment_45
theorem c_X4_setMoment {l : Launch} {X : zX} {I : Nat → Nat → Int32} {J : Nat → Nat → Int64} {Rr : Nat → Nat → Option Nat} {D : zD} {a1 : Int32} {a2 : Int32} {a3 : Int64} {a5 : Int64} (oI46 : Nat → Int32) (eoI46 : I 46 = oI46) (oJ46 : Nat → Int64) (eoJ46 : J 46 = oJ46) (v_debt : Int64) (e_v_debt : J 46 3 = v_debt) (v_paid : Int64) (e_v_paid : J 46 4 = v_paid) (v_shire : Int32) (e_v_shire : I 46 1 = v_shire) (v_term : Int32) (e_v_term : I 46 2 = v_term) {y_v_debt : Int64} {y_v_paid : Int64} {y_v_shire : Int32} {y_v_term : Int32} (h : pJudge_setMoment a1 a2 a3 a5 v_debt v_paid v_shire v_term = some (y_v_debt, y_v_paid, y_v_shire, y_v_term)) : zMv l yX4_setMoment cX4_setMoment 7 none ({ frames := 1, cells := 0, slots := 0, locals := 31 } : Room) X [.ref (X.1 + 46), .int a1, .int a2, .long a3, .long a5] (I, J, Rr, D) ((va_up I 46 (va_up (va_up oI46 1 y_v_shire) 2 y_v_term)), (va_up J 46 (va_up (va_up oJ46 3 y_v_debt) 4 y_v_paid)), Rr, D) := by
  subst eoI46
  subst eoJ46
  refine zMv.of (by decide) (Nat.le_of_ble_eq_true rfl) (fun C E hl hX hQ => ?_)
  subst hl
  subst hX
  have eI0 : (va_up I 46 (va_up (va_up (I 46) 1 v_shire) 2 v_term)) = I := by rw [zup_idE e_v_shire, zup_idE e_v_term, zup_id]
  have eJ0 : (va_up J 46 (va_up (va_up (J 46) 3 v_debt) 4 v_paid)) = J := by rw [zup_idE e_v_debt, zup_idE e_v_paid, zup_id]
  refine zb_S (S2 := ((va_up I 46 (va_up (va_up (I 46) 1 v_shire) 2 v_term)), (va_up J 46 (va_up (va_up (J 46) 3 v_debt) 4 v_paid)), Rr, D)) (zS_eq eI0.symm eJ0.symm) ?_
  exact c_X4_setMoment_0 a1 a2 a3 a5 y_v_debt y_v_paid y_v_shire y_v_term E hQ v_debt v_paid v_shire v_term h
-- ChequeredCloth$Judge.present
abbrev R_pJudge_present : Type := Int64
def pJudge_present (a1 : Int32) (v_debt : Int64) (v_paid : Int64) (v_term : Int32) : Option R_pJudge_present :=
  if a1 = (-3) then
    some v_debt
  else if a1 = (-2) then
    some (i2l (v_term / 2))
  else if a1 = (-1) then
    some (i2l v_term)
  else
    some v_paid
theorem dX4_present_0 : decode cX4_present 0 = .ok (.iload_n 1, 1) := by decide +kernel
theorem dX4_present_1 : decode cX4_present 1 = .ok (.tableswitch 46 (-3) (-1) #[41, 33, 27], 27) := by decide +kernel
theorem dX4_present_28 : decode cX4_present 28 = .ok (.aload_n 0, 1) := by decide +kernel
theorem dX4_present_29 : decode cX4_present 29 = .ok (.getfield 17, 3) := by decide +kernel
theorem dX4_present_32 : decode cX4_present 32 = .ok (.i2l, 1) := by decide +kernel
theorem dX4_present_33 : decode cX4_present 33 = .ok (.lreturn, 1) := by decide +kernel
theorem dX4_present_34 : decode cX4_present 34 = .ok (.aload_n 0, 1) := by decide +kernel
theorem dX4_present_35 : decode cX4_present 35 = .ok (.getfield 17, 3) := by decide +kernel
theorem dX4_present_38 : decode cX4_present 38 = .ok (.iconst 2, 1) := by decide +kernel
theorem dX4_present_39 : decode cX4_present 39 = .ok (.idiv, 1) := by decide +kernel
theorem dX4_present_40 : decode cX4_present 40 = .ok (.i2l, 1) := by decide +kernel
theorem dX4_present_41 : decode cX4_present 41 = .ok (.lreturn, 1) := by decide +kernel
theorem dX4_present_42 : decode cX4_present 42 = .ok (.aload_n 0, 1) := by decide +kernel
theorem dX4_present_43 : decode cX4_present 43 = .ok (.getfield 33, 3) := by decide +kernel
theorem dX4_present_46 : decode cX4_present 46 = .ok (.lreturn, 1) := by decide +kernel
theorem dX4_present_47 : decode cX4_present 47 = .ok (.aload_n 0, 1) := by decide +kernel
theorem dX4_present_48 : decode cX4_present 48 = .ok (.getfield 37, 3) := by decide +kernel
theorem dX4_present_51 : decode cX4_present 51 = .ok (.lreturn, 1) := by decide +kernel
theorem zy_X4_present : zYv yX4_present cX4_present 2 (some .long) 1 := ⟨zw_1017, zws_36, zw_9, zw_1018, by decide, by decide, by decide⟩
theorem c_X4_present_0 {C : zC} {I : Nat → Nat → Int32} {J : Nat → Nat → Int64} {Rr : Nat → Nat → Option Nat} {D : zD} (a1 : Int32) (v_debt : Int64) (e_v_debt : J 46 3 = v_debt) (v_paid : Int64) (e_v_paid : J 46 4 = v_paid) (v_term : Int32) (e_v_term : I 46 2 = v_term) (rr : Int64) (E : zE C RX4 cX4_present 2 (some .long) ({ frames := 0, cells := 0, slots := 0, locals := 0 } : Room)) (hQ : C.Q = zQl C ({ frames := 0, cells := 0, slots := 0, locals := 0 } : Room) rr (I, J, Rr, D)) (h : pJudge_present a1 v_debt v_paid v_term = some rr) : zB C (0, 0) 0 [(0, .ref (C.X.1 + 46)), (1, .int a1)] [] (I, J, Rr, D) := by
  refine zb_iload_n E dX4_present_0 1 rfl rfl ?_
  by_cases hc0 : a1 = (-3)
  · have h := if_t h hc0
    refine zb_tableIn E dX4_present_1 (tgt := 42) (by rw [hc0]; decide) (by rw [hc0]; decide) (by rw [hc0]; rfl) rfl ?_
    refine zb_aload_n E dX4_present_42 0 rfl rfl ?_
    refine zb_get E 46 (by decide) (zF_46 C.X) rfl zin4 3 (by decide) zw_236 (v := .long v_debt) (by exact congrArg (fun z => some (Value.long z)) e_v_debt) dX4_present_43 ?_
    obtain rfl := zinj1 h
    exact zb_lret E hQ rfl (by decide) dX4_present_46
  have h := if_f h hc0
  by_cases hc1 : a1 = (-2)
  · have h := if_t h hc1
    refine zb_tableIn E dX4_present_1 (tgt := 34) (by rw [hc1]; decide) (by rw [hc1]; decide) (by rw [hc1]; rfl) rfl ?_
    refine zb_aload_n E dX4_present_34 0 rfl rfl ?_
    refine zb_get E 46 (by decide) (zF_46 C.X) rfl zin4 2 (by decide) zw_235 (v := .int v_term) (by exact congrArg (fun z => some (Value.int z)) e_v_term) dX4_present_35 ?_
    refine zb_iconst E dX4_present_38 (v := 2) rfl ?_
    refine zb_idiv E dX4_present_39 (by decide) ?_
    refine zb_i2l E dX4_present_40 ?_
    obtain rfl := zinj1 h
    exact zb_lret E hQ rfl (by decide) dX4_present_41
  have h := if_f h hc1
  by_cases hc2 : a1 = (-1)
  · have h := if_t h hc2
    refine zb_tableIn E dX4_present_1 (tgt := 28) (by rw [hc2]; decide) (by rw [hc2]; decide) (by rw [hc2]; rfl) rfl ?_
    refine zb_aload_n E dX4_present_28 0 rfl rfl ?_
    refine zb_get E 46 (by decide) (zF_46 C.X) rfl zin4 2 (by decide) zw_235 (v := .int v_term) (by exact congrArg (fun z => some (Value.int z)) e_v_term) dX4_present_29 ?_
    refine zb_i2l E dX4_present_32 ?_
    obtain rfl := zinj1 h
    exact zb_lret E hQ rfl (by decide) dX4_present_33
  have h := if_f h hc2
  have hz0 : ¬ (a1).toInt = (-3 : Int) := fun e => hc0 (Int32.toInt_inj.mp (e.trans (by decide)))
  have hz1 : ¬ (a1).toInt = (-2 : Int) := fun e => hc1 (Int32.toInt_inj.mp (e.trans (by decide)))
  have hz2 : ¬ (a1).toInt = (-1 : Int) := fun e => hc2 (Int32.toInt_inj.mp (e.trans (by decide)))
  refine zb_tableOut E dX4_present_1 (tgt := 47) (by omega) rfl ?_
  refine zb_aload_n E dX4_present_47 0 rfl rfl ?_
  refine zb_get E 46 (by decide) (zF_46 C.X) rfl zin4 4 (by decide) zw_237 (v := .long v_paid) (by exact congrArg (fun z => some (Value.long z)) e_v_paid) dX4_present_48 ?_
  obtain rfl := zinj1 h
  exact zb_lret E hQ rfl (by decide) dX4_present_51
theorem c_X4_present {l : Launch} {X : zX} {I : Nat → Nat → Int32} {J : Nat → Nat → Int64} {Rr : Nat → Nat → Option Nat} {D : zD} {a1 : Int32} (v_debt : Int64) (e_v_debt : J 46 3 = v_debt) (v_paid : Int64) (e_v_paid : J 46 4 = v_paid) (v_term : Int32) (e_v_term : I 46 2 = v_term) {rr : Int64} (h : pJudge_present a1 v_debt v_paid v_term = some rr) : zMl l yX4_present cX4_present 2 (some .long) ({ frames := 0, cells := 0, slots := 0, locals := 0 } : Room) X [.ref (X.1 + 46), .int a1] (I, J, Rr, D) rr (I, J, Rr, D) := by
  refine zMl.of (by decide) (Nat.le_of_ble_eq_true rfl) (fun C E hl hX hQ => ?_)
  subst hl
  subst hX
  have eI0 : I = I := rfl
  have eJ0 : J = J := rfl
  refine zb_S (S2 := (I, J, Rr, D)) (zS_eq eI0.symm eJ0.symm) ?_
  exact c_X4_present_0 a1 v_debt e_v_debt v_paid e_v_paid v_term e_v_term rr E hQ h
