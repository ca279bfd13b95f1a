set_option maxHeartbeats 4000000
set_option maxRecDepth 100000
-- ChequeredCloth$Judge.setMoment
abbrev R_pJudge_setMoment : Type := Int64 × Int64 × Int32 × Int32
def pJudge_setMoment (a1 : Int32) (a2 : Int32) (a3 : Int64) (a5 : Int64) (v_debt : Int64) (v_paid : Int64) (v_shire : Int32) (v_term : Int32) : Option R_pJudge_setMoment :=
  some ((m_minL 1000000000 (m_maxL (-1000000000) a3)), (m_minL 1000000000 (m_maxL (-1000000000) a5)), a1, a2)
theorem dX4_setMoment_0 : decode cX4_setMoment 0 = .ok (.aload_n 0, 1) := by decide +kernel
theorem dX4_setMoment_1 : decode cX4_setMoment 1 = .ok (.iload_n 1, 1) := by decide +kernel
theorem dX4_setMoment_2 : decode cX4_setMoment 2 = .ok (.putfield 13, 3) := by decide +kernel
theorem dX4_setMoment_5 : decode cX4_setMoment 5 = .ok (.aload_n 0, 1) := by decide +kernel
theorem dX4_setMoment_6 : decode cX4_setMoment 6 = .ok (.iload_n 2, 1) := by decide +kernel
theorem dX4_setMoment_7 : decode cX4_setMoment 7 = .ok (.putfield 17, 3) := by decide +kernel
theorem dX4_setMoment_10 : decode cX4_setMoment 10 = .ok (.aload_n 0, 1) := by decide +kernel
theorem dX4_setMoment_11 : decode cX4_setMoment 11 = .ok (.ldc2_w 20, 3) := by decide +kernel
theorem dX4_setMoment_14 : decode cX4_setMoment 14 = .ok (.ldc2_w 22, 3) := by decide +kernel
theorem dX4_setMoment_17 : decode cX4_setMoment 17 = .ok (.lload_n 3, 1) := by decide +kernel
theorem dX4_setMoment_18 : decode cX4_setMoment 18 = .ok (.invokestatic 24, 3) := by decide +kernel
theorem dX4_setMoment_21 : decode cX4_setMoment 21 = .ok (.invokestatic 30, 3) := by decide +kernel
theorem dX4_setMoment_24 : decode cX4_setMoment 24 = .ok (.putfield 33, 3) := by decide +kernel
theorem dX4_setMoment_27 : decode cX4_setMoment 27 = .ok (.aload_n 0, 1) := by decide +kernel
theorem dX4_setMoment_28 : decode cX4_setMoment 28 = .ok (.ldc2_w 20, 3) := by decide +kernel
theorem dX4_setMoment_31 : decode cX4_setMoment 31 = .ok (.ldc2_w 22, 3) := by decide +kernel
theorem dX4_setMoment_34 : decode cX4_setMoment 34 = .ok (.lload 5, 2) := by decide +kernel
theorem dX4_setMoment_36 : decode cX4_setMoment 36 = .ok (.invokestatic 24, 3) := by decide +kernel
theorem dX4_setMoment_39 : decode cX4_setMoment 39 = .ok (.invokestatic 30, 3) := by decide +kernel
theorem dX4_setMoment_42 : decode cX4_setMoment 42 = .ok (.putfield 37, 3) := by decide +kernel
theorem dX4_setMoment_45 : decode cX4_setMoment 45 = .ok (.return_, 1) := by decide +kernel
theorem zy_X4_setMoment : zYv yX4_setMoment cX4_setMoment 7 none 4 := ⟨zw_999, zw_1000, zw_9, zw_1001, by decide, by decide, by decide⟩
theorem c_X4_setMoment_0 {C : zC} {I : Nat → Nat → Int32} {J : Nat → Nat → Int64} {Rr : Nat → Nat → Option Nat} {D : zD} (a1 : Int32) (a2 : Int32) (a3 : Int64) (a5 : Int64) (y_v_debt : Int64) (y_v_paid : Int64) (y_v_shire : Int32) (y_v_term : Int32) (E : zE C RX4 cX4_setMoment 7 none ({ frames := 1, cells := 0, slots := 0, locals := 31 } : Room)) (hQ : C.Q = zQv C ({ frames := 1, cells := 0, slots := 0, locals := 31 } : Room) ((va_up I 46 (va_up (va_up (I 46) 1 y_v_shire) 2 y_v_term)), (va_up J 46 (va_up (va_up (J 46) 3 y_v_debt) 4 y_v_paid)), Rr, D)) (v_debt : Int64) (v_paid : Int64) (v_shire : Int32) (v_term : Int32) (h : pJudge_setMoment a1 a2 a3 a5 v_debt v_paid v_shire v_term = some (y_v_debt, y_v_paid, y_v_shire, y_v_term)) : zB C (0, 0) 0 [(0, .ref (C.X.1 + 46)), (1, .int a1), (2, .int a2), (3, .long a3), (5, .long a5)] [] ((va_up I 46 (va_up (va_up (I 46) 1 v_shire) 2 v_term)), (va_up J 46 (va_up (va_up (J 46) 3 v_debt) 4 v_paid)), Rr, D) := by
  refine zb_aload_n E dX4_setMoment_0 0 rfl rfl ?_
  refine zb_iload_n E dX4_setMoment_1 1 rfl rfl ?_
  refine zb_put E 46 (by decide) (zF_46 C.X) rfl zin4 1 (by decide) zw_234 tyX4 tyX4_ok nmX4 rfl rfl rfl (I2 := (va_up I 46 (va_up (va_up (I 46) 1 a1) 2 v_term))) (J2 := (va_up J 46 (va_up (va_up (J 46) 3 v_debt) 4 v_paid))) ((zset4_1 C.X (va_up (va_up (I 46) 1 v_shire) 2 v_term) (va_up (va_up (J 46) 3 v_debt) 4 v_paid) a1).trans (congrArg (fun g => zf4 C.X g (va_up (va_up (J 46) 3 v_debt) 4 v_paid)) (zn2 (by decide : (2 : Nat) ≠ 1)))) (by rw [zflen4]; decide) (fun j hj => ⟨(zup_n hj).trans (zup_n hj).symm, rfl⟩) dX4_setMoment_2 ?_
  refine zb_aload_n E dX4_setMoment_5 0 rfl rfl ?_
  refine zb_iload_n E dX4_setMoment_6 2 rfl rfl ?_
  refine zb_put E 46 (by decide) (zF_46 C.X) rfl zin4 2 (by decide) zw_235 tyX4 tyX4_ok nmX4 rfl rfl rfl (I2 := (va_up I 46 (va_up (va_up (I 46) 1 a1) 2 a2))) (J2 := (va_up J 46 (va_up (va_up (J 46) 3 v_debt) 4 v_paid))) ((zset4_2 C.X (va_up (va_up (I 46) 1 a1) 2 v_term) (va_up (va_up (J 46) 3 v_debt) 4 v_paid) a2).trans (congrArg (fun g => zf4 C.X g (va_up (va_up (J 46) 3 v_debt) 4 v_paid)) zn1)) (by rw [zflen4]; decide) (fun j hj => ⟨(zup_n hj).trans (zup_n hj).symm, rfl⟩) dX4_setMoment_7 ?_
  refine zb_aload_n E dX4_setMoment_10 0 rfl rfl ?_
  refine zb_ldc2 E dX4_setMoment_11 (v := 1000000000) zw_1002 ?_
  refine zb_ldc2 E dX4_setMoment_14 (v := (-1000000000)) zw_1003 ?_
  refine zb_lload_n E dX4_setMoment_17 3 rfl rfl ?_
  refine zb_mmaxL E zYm_mmaxL zw_1004 (by decide) (by first | decide | simp [Value.category]) dX4_setMoment_18 ?_
  refine zb_mminL E zYm_mminL zw_1007 (by decide) (by first | decide | simp [Value.category]) dX4_setMoment_21 ?_
  refine zb_put E 46 (by decide) (zF_46 C.X) rfl zin4 3 (by decide) zw_236 tyX4 tyX4_ok nmX4 rfl rfl rfl (I2 := (va_up I 46 (va_up (va_up (I 46) 1 a1) 2 a2))) (J2 := (va_up J 46 (va_up (va_up (J 46) 3 (m_minL 1000000000 (m_maxL (-1000000000) a3))) 4 v_paid))) ((zset4_3 C.X (va_up (va_up (I 46) 1 a1) 2 a2) (va_up (va_up (J 46) 3 v_debt) 4 v_paid) (m_minL 1000000000 (m_maxL (-1000000000) a3))).trans (congrArg (fun g => zf4 C.X (va_up (va_up (I 46) 1 a1) 2 a2) g) (zn2 (by decide : (4 : Nat) ≠ 3)))) (by rw [zflen4]; decide) (fun j hj => ⟨rfl, (zup_n hj).trans (zup_n hj).symm⟩) dX4_setMoment_24 ?_
  refine zb_aload_n E dX4_setMoment_27 0 rfl rfl ?_
  refine zb_ldc2 E dX4_setMoment_28 (v := 1000000000) zw_1002 ?_
  refine zb_ldc2 E dX4_setMoment_31 (v := (-1000000000)) zw_1003 ?_
  refine zb_lload E dX4_setMoment_34 4 rfl ?_
  refine zb_mmaxL E zYm_mmaxL zw_1004 (by decide) (by first | decide | simp [Value.category]) dX4_setMoment_36 ?_
  refine zb_mminL E zYm_mminL zw_1007 (by decide) (by first | decide | simp [Value.category]) dX4_setMoment_39 ?_
  refine zb_put E 46 (by decide) (zF_46 C.X) rfl zin4 4 (by decide) zw_237 tyX4 tyX4_ok nmX4 rfl rfl rfl (I2 := (va_up I 46 (va_up (va_up (I 46) 1 a1) 2 a2))) (J2 := (va_up J 46 (va_up (va_up (J 46) 3 (m_minL 1000000000 (m_maxL (-1000000000) a3))) 4 (m_minL 1000000000 (m_maxL (-1000000000) a5))))) ((zset4_4 C.X (va_up (va_up (I 46) 1 a1) 2 a2) (va_up (va_up (J 46) 3 (m_minL 1000000000 (m_maxL (-1000000000) a3))) 4 v_paid) (m_minL 1000000000 (m_maxL (-1000000000) a5))).trans (congrArg (fun g => zf4 C.X (va_up (va_up (I 46) 1 a1) 2 a2) g) zn1)) (by rw [zflen4]; decide) (fun j hj => ⟨rfl, (zup_n hj).trans (zup_n hj).symm⟩) dX4_setMoment_42 ?_
  obtain ⟨rfl, rfl, rfl, rfl⟩ := zinj4 h
  exact zb_vret E hQ rfl ⟨Nat.zero_le _, Nat.zero_le _⟩ dX4_setMoment_45
theorem c_X4_setMoment {l : Launch} {X : zX} {I : Nat → Nat → Int32} {J : Nat → Nat → Int64} {Rr : Nat → Nat → Option Nat} {D : zD} {a1 : Int32} {a2 : Int32} {a3 : Int64} {a5 : Int64} (oI46 : Nat → Int32) (eoI46 : I 46 = oI46) (oJ46 : Nat → Int64) (eoJ46 : J 46 = oJ46) (v_debt : Int64) (e_v_debt : J 46 3 = v_debt) (v_paid : Int64) (e_v_paid : J 46 4 = v_paid) (v_shire : Int32) (e_v_shire : I 46 1 = v_shire) (v_term : Int32) (e_v_term : I 46 2 = v_term) {y_v_debt : Int64} {y_v_paid : Int64} {y_v_shire : Int32} {y_v_term : Int32} (h : pJudge_setMoment a1 a2 a3 a5 v_debt v_paid v_shire v_term = some (y_v_debt, y_v_paid, y_v_shire, y_v_term)) : zMv l yX4_setMoment cX4_setMoment 7 none ({ frames := 1, cells := 0, slots := 0, locals := 31 } : Room) X [.ref (X.1 + 46), .int a1, .int a2, .long a3, .long a5] (I, J, Rr, D) ((va_up I 46 (va_up (va_up oI46 1 y_v_shire) 2 y_v_term)), (va_up J 46 (va_up (va_up oJ46 3 y_v_debt) 4 y_v_paid)), Rr, D) := by
  subst eoI46
  subst eoJ46
  refine zMv.of (by decide) (Nat.le_of_ble_eq_true rfl) (fun C E hl hX hQ => ?_)
  subst hl
  subst hX
  have eI0 : (va_up I 46 (va_up (va_up (I 46) 1 v_shire) 2 v_term)) = I := by rw [zup_idE e_v_shire, zup_idE e_v_term, zup_id]
  have eJ0 : (va_up J 46 (va_up (va_up (J 46) 3 v_debt) 4 v_paid)) = J := by rw [zup_idE e_v_debt, zup_idE e_v_paid, zup_id]
  refine zb_S (S2 := ((va_up I 46 (va_up (va_up (I 46) 1 v_shire) 2 v_term)), (va_up J 46 (va_up (va_up (J 46) 3 v_debt) 4 v_paid)), Rr, D)) (zS_eq eI0.symm eJ0.symm) ?_
  exact c_X4_setMoment_0 a1 a2 a3 a5 y_v_debt y_v_paid y_v_shire y_v_term E hQ v_debt v_paid v_shire v_term h
-- ChequeredCloth$Judge.present
abbrev R_pJudge_present : Type := Int64
def pJudge_present (a1 : Int32) (v_debt : Int64) (v_paid : Int64) (v_term : Int32) : Option R_pJudge_present :=
  if a1 = (-3) then
    some v_debt
  else if a1 = (-2) then
    some (i2l (v_term / 2))
  else if a1 = (-1) then
    some (i2l v_term)
  else
    some v_paid
theorem dX4_present_0 : decode cX4_present 0 = .ok (.iload_n 1, 1) := by decide +kernel
theorem dX4_present_1 : decode cX4_present 1 = .ok (.tableswitch 46 (-3) (-1) #[41, 33, 27], 27) := by decide +kernel
theorem dX4_present_28 : decode cX4_present 28 = .ok (.aload_n 0, 1) := by decide +kernel
theorem dX4_present_29 : decode cX4_present 29 = .ok (.getfield 17, 3) := by decide +kernel
theorem dX4_present_32 : decode cX4_present 32 = .ok (.i2l, 1) := by decide +kernel
theorem dX4_present_33 : decode cX4_present 33 = .ok (.lreturn, 1) := by decide +kernel
theorem dX4_present_34 : decode cX4_present 34 = .ok (.aload_n 0, 1) := by decide +kernel
theorem dX4_present_35 : decode cX4_present 35 = .ok (.getfield 17, 3) := by decide +kernel
theorem dX4_present_38 : decode cX4_present 38 = .ok (.iconst 2, 1) := by decide +kernel
theorem dX4_present_39 : decode cX4_present 39 = .ok (.idiv, 1) := by decide +kernel
theorem dX4_present_40 : decode cX4_present 40 = .ok (.i2l, 1) := by decide +kernel
theorem dX4_present_41 : decode cX4_present 41 = .ok (.lreturn, 1) := by decide +kernel
theorem dX4_present_42 : decode cX4_present 42 = .ok (.aload_n 0, 1) := by decide +kernel
theorem dX4_present_43 : decode cX4_present 43 = .ok (.getfield 33, 3) := by decide +kernel
theorem dX4_present_46 : decode cX4_present 46 = .ok (.lreturn, 1) := by decide +kernel
theorem dX4_present_47 : decode cX4_present 47 = .ok (.aload_n 0, 1) := by decide +kernel
theorem dX4_present_48 : decode cX4_present 48 = .ok (.getfield 37, 3) := by decide +kernel
theorem dX4_present_51 : decode cX4_present 51 = .ok (.lreturn, 1) := by decide +kernel
theorem zy_X4_present : zYv yX4_present cX4_present 2 (some .long) 1 := ⟨zw_1017, zws_36, zw_9, zw_1018, by decide, by decide, by decide⟩
theorem c_X4_present_0 {C : zC} {I : Nat → Nat → Int32} {J : Nat → Nat → Int64} {Rr : Nat → Nat → Option Nat} {D : zD} (a1 : Int32) (v_debt : Int64) (e_v_debt : J 46 3 = v_debt) (v_paid : Int64) (e_v_paid : J 46 4 = v_paid) (v_term : Int32) (e_v_term : I 46 2 = v_term) (rr : Int64) (E : zE C RX4 cX4_present 2 (some .long) ({ frames := 0, cells := 0, slots := 0, locals := 0 } : Room)) (hQ : C.Q = zQl C ({ frames := 0, cells := 0, slots := 0, locals := 0 } : Room) rr (I, J, Rr, D)) (h : pJudge_present a1 v_debt v_paid v_term = some rr) : zB C (0, 0) 0 [(0, .ref (C.X.1 + 46)), (1, .int a1)] [] (I, J, Rr, D) := by
  refine zb_iload_n E dX4_present_0 1 rfl rfl ?_
  by_cases hc0 : a1 = (-3)
  · have h := if_t h hc0
    refine zb_tableIn E dX4_present_1 (tgt := 42) (by rw [hc0]; decide) (by rw [hc0]; decide) (by rw [hc0]; rfl) rfl ?_
    refine zb_aload_n E dX4_present_42 0 rfl rfl ?_
    refine zb_get E 46 (by decide) (zF_46 C.X) rfl zin4 3 (by decide) zw_236 (v := .long v_debt) (by exact congrArg (fun z => some (Value.long z)) e_v_debt) dX4_present_43 ?_
    obtain rfl := zinj1 h
    exact zb_lret E hQ rfl ⟨Nat.zero_le _, Nat.zero_le _⟩ dX4_present_46
  have h := if_f h hc0
  by_cases hc1 : a1 = (-2)
  · have h := if_t h hc1
    refine zb_tableIn E dX4_present_1 (tgt := 34) (by rw [hc1]; decide) (by rw [hc1]; decide) (by rw [hc1]; rfl) rfl ?_
    refine zb_aload_n E dX4_present_34 0 rfl rfl ?_
    refine zb_get E 46 (by decide) (zF_46 C.X) rfl zin4 2 (by decide) zw_235 (v := .int v_term) (by exact congrArg (fun z => some (Value.int z)) e_v_term) dX4_present_35 ?_
    refine zb_iconst E dX4_present_38 (v := 2) rfl ?_
    refine zb_idiv E dX4_present_39 (by decide) ?_
    refine zb_i2l E dX4_present_40 ?_
    obtain rfl := zinj1 h
    exact zb_lret E hQ rfl ⟨Nat.zero_le _, Nat.zero_le _⟩ dX4_present_41
  have h := if_f h hc1
  by_cases hc2 : a1 = (-1)
  · have h := if_t h hc2
    refine zb_tableIn E dX4_present_1 (tgt := 28) (by rw [hc2]; decide) (by rw [hc2]; decide) (by rw [hc2]; rfl) rfl ?_
    refine zb_aload_n E dX4_present_28 0 rfl rfl ?_
    refine zb_get E 46 (by decide) (zF_46 C.X) rfl zin4 2 (by decide) zw_235 (v := .int v_term) (by exact congrArg (fun z => some (Value.int z)) e_v_term) dX4_present_29 ?_
    refine zb_i2l E dX4_present_32 ?_
    obtain rfl := zinj1 h
    exact zb_lret E hQ rfl ⟨Nat.zero_le _, Nat.zero_le _⟩ dX4_present_33
  have h := if_f h hc2
  have hz0 : ¬ (a1).toInt = (-3 : Int) := fun e => hc0 (Int32.toInt_inj.mp (e.trans (by decide)))
  have hz1 : ¬ (a1).toInt = (-2 : Int) := fun e => hc1 (Int32.toInt_inj.mp (e.trans (by decide)))
  have hz2 : ¬ (a1).toInt = (-1 : Int) := fun e => hc2 (Int32.toInt_inj.mp (e.trans (by decide)))
  refine zb_tableOut E dX4_present_1 (tgt := 47) (by omega) rfl ?_
  refine zb_aload_n E dX4_present_47 0 rfl rfl ?_
  refine zb_get E 46 (by decide) (zF_46 C.X) rfl zin4 4 (by decide) zw_237 (v := .long v_paid) (by exact congrArg (fun z => some (Value.long z)) e_v_paid) dX4_present_48 ?_
  obtain rfl := zinj1 h
  exact zb_lret E hQ rfl ⟨Nat.zero_le _, Nat.zero_le _⟩ dX4_present_51
theorem c_X4_present {l : Launch} {X : zX} {I : Nat → Nat → Int32} {J : Nat → Nat → Int64} {Rr : Nat → Nat → Option Nat} {D : zD} {a1 : Int32} (v_debt : Int64) (e_v_debt : J 46 3 = v_debt) (v_paid : Int64) (e_v_paid : J 46 4 = v_paid) (v_term : Int32) (e_v_term : I 46 2 = v_term) {rr : Int64} (h : pJudge_present a1 v_debt v_paid v_term = some rr) : zMl l yX4_present cX4_present 2 (some .long) ({ frames := 0, cells := 0, slots := 0, locals := 0 } : Room) X [.ref (X.1 + 46), .int a1] (I, J, Rr, D) rr (I, J, Rr, D) := by
  refine zMl.of (by decide) (Nat.le_of_ble_eq_true rfl) (fun C E hl hX hQ => ?_)
  subst hl
  subst hX
  have eI0 : I = I := rfl
  have eJ0 : J = J := rfl
  refine zb_S (S2 := (I, J, Rr, D)) (zS_eq eI0.symm eJ0.symm) ?_
  exact c_X4_present_0 a1 v_debt e_v_debt v_paid e_v_paid v_term e_v_term rr E hQ h
-- ChequeredCloth$Judge.together
abbrev R_pJudge_together : Type := Int64
def pJudge_together (a0 : Int32) (a1 : Int64) (a3 : Int64) : Option R_pJudge_together :=
  if a0 = (-17) then
    some (m_maxL a1 a3)
  else if a0 = (-16) then
    some (m_minL a1 a3)
  else if a0 = (-14) then
    if (lg_cmp a1 a3) ≤ 0 then
      some 0
    else
      some 1
  else if a0 = (-13) then
    if 0 ≤ (lg_cmp a1 a3) then
      some 0
    else
      some 1
  else if a0 = (-12) then
    some (m_maxL a1 a3)
  else if a0 = (-11) then
    some (m_minL a1 a3)
  else if a0 = (-10) then
    if (lg_cmp a3 0) = 0 then
      some 0
    else
      bd1 (pJMath_floorDivL a1 a3) fun rc1 =>
      some rc1
  else if a0 = (-9) then
    some (m_minL 1000000000 (m_maxL (-1000000000) (a1 * a3)))
  else if a0 = (-8) then
    some (m_minL 1000000000 (m_maxL (-1000000000) (a1 - a3)))
  else if a0 = (-7) then
    some (m_minL 1000000000 (m_maxL (-1000000000) (a1 + a3)))
  else
    if (lg_cmp a1 a3) = 0 then
      some 1
    else
      some 0
theorem dX4_together_0 : decode cX4_together 0 = .ok (.iload_n 0, 1) := by decide +kernel
theorem dX4_together_1 : decode cX4_together 1 = .ok (.tableswitch 159 (-17) (-7) #[129, 123, 159, 147, 135, 129, 123, 107, 91, 75, 59], 59) := by decide +kernel
theorem dX4_together_60 : decode cX4_together 60 = .ok (.ldc2_w 20, 3) := by decide +kernel
theorem dX4_together_63 : decode cX4_together 63 = .ok (.ldc2_w 22, 3) := by decide +kernel
theorem dX4_together_66 : decode cX4_together 66 = .ok (.lload_n 1, 1) := by decide +kernel
theorem dX4_together_67 : decode cX4_together 67 = .ok (.lload_n 3, 1) := by decide +kernel
theorem dX4_together_68 : decode cX4_together 68 = .ok (.ladd, 1) := by decide +kernel
theorem dX4_together_69 : decode cX4_together 69 = .ok (.invokestatic 24, 3) := by decide +kernel
theorem dX4_together_72 : decode cX4_together 72 = .ok (.invokestatic 30, 3) := by decide +kernel
theorem dX4_together_75 : decode cX4_together 75 = .ok (.lreturn, 1) := by decide +kernel
theorem dX4_together_76 : decode cX4_together 76 = .ok (.ldc2_w 20, 3) := by decide +kernel
theorem dX4_together_79 : decode cX4_together 79 = .ok (.ldc2_w 22, 3) := by decide +kernel
theorem dX4_together_82 : decode cX4_together 82 = .ok (.lload_n 1, 1) := by decide +kernel
theorem dX4_together_83 : decode cX4_together 83 = .ok (.lload_n 3, 1) := by decide +kernel
theorem dX4_together_84 : decode cX4_together 84 = .ok (.lsub, 1) := by decide +kernel
theorem dX4_together_85 : decode cX4_together 85 = .ok (.invokestatic 24, 3) := by decide +kernel
theorem dX4_together_88 : decode cX4_together 88 = .ok (.invokestatic 30, 3) := by decide +kernel
theorem dX4_together_91 : decode cX4_together 91 = .ok (.lreturn, 1) := by decide +kernel
theorem dX4_together_92 : decode cX4_together 92 = .ok (.ldc2_w 20, 3) := by decide +kernel
theorem dX4_together_95 : decode cX4_together 95 = .ok (.ldc2_w 22, 3) := by decide +kernel
theorem dX4_together_98 : decode cX4_together 98 = .ok (.lload_n 1, 1) := by decide +kernel
theorem dX4_together_99 : decode cX4_together 99 = .ok (.lload_n 3, 1) := by decide +kernel
theorem dX4_together_100 : decode cX4_together 100 = .ok (.lmul, 1) := by decide +kernel
theorem dX4_together_101 : decode cX4_together 101 = .ok (.invokestatic 24, 3) := by decide +kernel
theorem dX4_together_104 : decode cX4_together 104 = .ok (.invokestatic 30, 3) := by decide +kernel
theorem dX4_together_107 : decode cX4_together 107 = .ok (.lreturn, 1) := by decide +kernel
theorem dX4_together_108 : decode cX4_together 108 = .ok (.lload_n 3, 1) := by decide +kernel
theorem dX4_together_109 : decode cX4_together 109 = .ok (.lconst 0, 1) := by decide +kernel
theorem dX4_together_110 : decode cX4_together 110 = .ok (.lcmp, 1) := by decide +kernel
theorem dX4_together_111 : decode cX4_together 111 = .ok (.ifCond .ne 7, 3) := by decide +kernel
theorem dX4_together_114 : decode cX4_together 114 = .ok (.lconst 0, 1) := by decide +kernel
theorem dX4_together_115 : decode cX4_together 115 = .ok (.goto 8, 3) := by decide +kernel
theorem dX4_together_118 : decode cX4_together 118 = .ok (.lload_n 1, 1) := by decide +kernel
theorem dX4_together_119 : decode cX4_together 119 = .ok (.lload_n 3, 1) := by decide +kernel
theorem dX4_together_120 : decode cX4_together 120 = .ok (.invokestatic 51, 3) := by decide +kernel
theorem dX4_together_123 : decode cX4_together 123 = .ok (.lreturn, 1) := by decide +kernel
theorem dX4_together_124 : decode cX4_together 124 = .ok (.lload_n 1, 1) := by decide +kernel
theorem dX4_together_125 : decode cX4_together 125 = .ok (.lload_n 3, 1) := by decide +kernel
theorem dX4_together_126 : decode cX4_together 126 = .ok (.invokestatic 30, 3) := by decide +kernel
theorem dX4_together_129 : decode cX4_together 129 = .ok (.lreturn, 1) := by decide +kernel
theorem dX4_together_130 : decode cX4_together 130 = .ok (.lload_n 1, 1) := by decide +kernel
theorem dX4_together_131 : decode cX4_together 131 = .ok (.lload_n 3, 1) := by decide +kernel
theorem dX4_together_132 : decode cX4_together 132 = .ok (.invokestatic 24, 3) := by decide +kernel
theorem dX4_together_135 : decode cX4_together 135 = .ok (.lreturn, 1) := by decide +kernel
theorem dX4_together_136 : decode cX4_together 136 = .ok (.lload_n 1, 1) := by decide +kernel
theorem dX4_together_137 : decode cX4_together 137 = .ok (.lload_n 3, 1) := by decide +kernel
theorem dX4_together_138 : decode cX4_together 138 = .ok (.lcmp, 1) := by decide +kernel
theorem dX4_together_139 : decode cX4_together 139 = .ok (.ifCond .ge 7, 3) := by decide +kernel
theorem dX4_together_142 : decode cX4_together 142 = .ok (.lconst 1, 1) := by decide +kernel
theorem dX4_together_143 : decode cX4_together 143 = .ok (.goto 4, 3) := by decide +kernel
theorem dX4_together_146 : decode cX4_together 146 = .ok (.lconst 0, 1) := by decide +kernel
theorem dX4_together_147 : decode cX4_together 147 = .ok (.lreturn, 1) := by decide +kernel
theorem dX4_together_148 : decode cX4_together 148 = .ok (.lload_n 1, 1) := by decide +kernel
theorem dX4_together_149 : decode cX4_together 149 = .ok (.lload_n 3, 1) := by decide +kernel
theorem dX4_together_150 : decode cX4_together 150 = .ok (.lcmp, 1) := by decide +kernel
theorem dX4_together_151 : decode cX4_together 151 = .ok (.ifCond .le 7, 3) := by decide +kernel
theorem dX4_together_154 : decode cX4_together 154 = .ok (.lconst 1, 1) := by decide +kernel
theorem dX4_together_155 : decode cX4_together 155 = .ok (.goto 4, 3) := by decide +kernel
theorem dX4_together_158 : decode cX4_together 158 = .ok (.lconst 0, 1) := by decide +kernel
theorem dX4_together_159 : decode cX4_together 159 = .ok (.lreturn, 1) := by decide +kernel
theorem dX4_together_160 : decode cX4_together 160 = .ok (.lload_n 1, 1) := by decide +kernel
theorem dX4_together_161 : decode cX4_together 161 = .ok (.lload_n 3, 1) := by decide +kernel
theorem dX4_together_162 : decode cX4_together 162 = .ok (.lcmp, 1) := by decide +kernel
theorem dX4_together_163 : decode cX4_together 163 = .ok (.ifCond .ne 7, 3) := by decide +kernel
theorem dX4_together_166 : decode cX4_together 166 = .ok (.lconst 1, 1) := by decide +kernel
theorem dX4_together_167 : decode cX4_together 167 = .ok (.goto 4, 3) := by decide +kernel
theorem dX4_together_170 : decode cX4_together 170 = .ok (.lconst 0, 1) := by decide +kernel
theorem dX4_together_171 : decode cX4_together 171 = .ok (.lreturn, 1) := by decide +kernel
theorem zy_X4_together : zYs yX4_together cX4_together 5 (some .long) 3 := ⟨zw_1020, zw_9, zw_1021, by decide, by decide, by decide⟩
theorem c_X4_together_0 {C : zC} {I : Nat → Nat → Int32} {J : Nat → Nat → Int64} {Rr : Nat → Nat → Option Nat} {D : zD} (a0 : Int32) (a1 : Int64) (a3 : Int64) (rr : Int64) (E : zE C RX4 cX4_together 5 (some .long) ({ frames := 1, cells := 0, slots := 0, locals := 31 } : Room)) (hQ : C.Q = zQl C ({ frames := 1, cells := 0, slots := 0, locals := 31 } : Room) rr (I, J, Rr, D)) (h : pJudge_together a0 a1 a3 = some rr) : zB C (0, 0) 0 [(0, .int a0), (1, .long a1), (3, .long a3)] [] (I, J, Rr, D) := by
  refine zb_iload_n E dX4_together_0 0 rfl rfl ?_
  by_cases hc0 : a0 = (-17)
  · have h := if_t h hc0
    refine zb_tableIn E dX4_together_1 (tgt := 130) (by rw [hc0]; decide) (by rw [hc0]; decide) (by rw [hc0]; rfl) rfl ?_
    refine zb_lload_n E dX4_together_130 1 rfl rfl ?_
    refine zb_lload_n E dX4_together_131 2 rfl rfl ?_
    refine zb_mmaxL E zYm_mmaxL zw_1004 (by decide) (by first | decide | simp [Value.category]) dX4_together_132 ?_
    obtain rfl := zinj1 h
    exact zb_lret E hQ rfl ⟨Nat.zero_le _, Nat.zero_le _⟩ dX4_together_135
  have h := if_f h hc0
  by_cases hc1 : a0 = (-16)
  · have h := if_t h hc1
    refine zb_tableIn E dX4_together_1 (tgt := 124) (by rw [hc1]; decide) (by rw [hc1]; decide) (by rw [hc1]; rfl) rfl ?_
    refine zb_lload_n E dX4_together_124 1 rfl rfl ?_
    refine zb_lload_n E dX4_together_125 2 rfl rfl ?_
    refine zb_mminL E zYm_mminL zw_1007 (by decide) (by first | decide | simp [Value.category]) dX4_together_126 ?_
    obtain rfl := zinj1 h
    exact zb_lret E hQ rfl ⟨Nat.zero_le _, Nat.zero_le _⟩ dX4_together_129
  have h := if_f h hc1
  by_cases hc2 : a0 = (-14)
  · have h := if_t h hc2
    refine zb_tableIn E dX4_together_1 (tgt := 148) (by rw [hc2]; decide) (by rw [hc2]; decide) (by rw [hc2]; rfl) rfl ?_
    refine zb_lload_n E dX4_together_148 1 rfl rfl ?_
    refine zb_lload_n E dX4_together_149 2 rfl rfl ?_
    refine zb_lcmp E dX4_together_150 ?_
    refine zb_if_le E dX4_together_151 (tgt := 158) rfl (fun hc => ?_) (fun hc => ?_)
    · have h := if_t h hc
      refine zb_lconst E dX4_together_158 (v := 0) rfl ?_
      obtain rfl := zinj1 h
      exact zb_lret E hQ rfl ⟨Nat.zero_le _, Nat.zero_le _⟩ dX4_together_159
    · have h := if_f h hc
      refine zb_lconst E dX4_together_154 (v := 1) rfl ?_
      refine zb_goto E dX4_together_155 (tgt := 159) rfl ?_
      obtain rfl := zinj1 h
      exact zb_lret E hQ rfl ⟨Nat.zero_le _, Nat.zero_le _⟩ dX4_together_159
  have h := if_f h hc2
  by_cases hc3 : a0 = (-13)
  · have h := if_t h hc3
    refine zb_tableIn E dX4_together_1 (tgt := 136) (by rw [hc3]; decide) (by rw [hc3]; decide) (by rw [hc3]; rfl) rfl ?_
    refine zb_lload_n E dX4_together_136 1 rfl rfl ?_
    refine zb_lload_n E dX4_together_137 2 rfl rfl ?_
    refine zb_lcmp E dX4_together_138 ?_
    refine zb_if_ge E dX4_together_139 (tgt := 146) rfl (fun hc => ?_) (fun hc => ?_)
    · have h := if_t h hc
      refine zb_lconst E dX4_together_146 (v := 0) rfl ?_
      obtain rfl := zinj1 h
      exact zb_lret E hQ rfl ⟨Nat.zero_le _, Nat.zero_le _⟩ dX4_together_147
    · have h := if_f h hc
      refine zb_lconst E dX4_together_142 (v := 1) rfl ?_
      refine zb_goto E dX4_together_143 (tgt := 147) rfl ?_
      obtain rfl := zinj1 h
      exact zb_lret E hQ rfl ⟨Nat.zero_le _, Nat.zero_le _⟩ dX4_together_147
  have h := if_f h hc3
  by_cases hc4 : a0 = (-12)
  · have h := if_t h hc4
    refine zb_tableIn E dX4_together_1 (tgt := 130) (by rw [hc4]; decide) (by rw [hc4]; decide) (by rw [hc4]; rfl) rfl ?_
    refine zb_lload_n E dX4_together_130 1 rfl rfl ?_
    refine zb_lload_n E dX4_together_131 2 rfl rfl ?_
    refine zb_mmaxL E zYm_mmaxL zw_1004 (by decide) (by first | decide | simp [Value.category]) dX4_together_132 ?_
    obtain rfl := zinj1 h
    exact zb_lret E hQ rfl ⟨Nat.zero_le _, Nat.zero_le _⟩ dX4_together_135
  have h := if_f h hc4
  by_cases hc5 : a0 = (-11)
  · have h := if_t h hc5
    refine zb_tableIn E dX4_together_1 (tgt := 124) (by rw [hc5]; decide) (by rw [hc5]; decide) (by rw [hc5]; rfl) rfl ?_
    refine zb_lload_n E dX4_together_124 1 rfl rfl ?_
    refine zb_lload_n E dX4_together_125 2 rfl rfl ?_
    refine zb_mminL E zYm_mminL zw_1007 (by decide) (by first | decide | simp [Value.category]) dX4_together_126 ?_
    obtain rfl := zinj1 h
    exact zb_lret E hQ rfl ⟨Nat.zero_le _, Nat.zero_le _⟩ dX4_together_129
  have h := if_f h hc5
  by_cases hc6 : a0 = (-10)
  · have h := if_t h hc6
    refine zb_tableIn E dX4_together_1 (tgt := 108) (by rw [hc6]; decide) (by rw [hc6]; decide) (by rw [hc6]; rfl) rfl ?_
    refine zb_lload_n E dX4_together_108 2 rfl rfl ?_
    refine zb_lconst E dX4_together_109 (v := 0) rfl ?_
    refine zb_lcmp E dX4_together_110 ?_
    refine zb_if_ne E dX4_together_111 (tgt := 118) rfl (fun hc => ?_) (fun hc => ?_)
    · have h := if_f h hc
      refine zb_lload_n E dX4_together_118 1 rfl rfl ?_
      refine zb_lload_n E dX4_together_119 2 rfl rfl ?_
      obtain ⟨rc1, hc_120, h⟩ := bd1_s h
      refine zb_cSl E [.long a1, .long a3] zy_J9_floorDiv_f86c9 zw_1022 (c_J9_floorDiv_f86c9 hc_120) (by decide) rfl rfl (by first | decide | simp [Value.category]) dX4_together_120 (cs2 := (0, 0)) rfl ?_
      obtain rfl := zinj1 h
      exact zb_lret E hQ rfl ⟨Nat.zero_le _, Nat.zero_le _⟩ dX4_together_123
    · have h := if_t h hc
      refine zb_lconst E dX4_together_114 (v := 0) rfl ?_
      refine zb_goto E dX4_together_115 (tgt := 123) rfl ?_
      obtain rfl := zinj1 h
      exact zb_lret E hQ rfl ⟨Nat.zero_le _, Nat.zero_le _⟩ dX4_together_123
  have h := if_f h hc6
  by_cases hc7 : a0 = (-9)
  · have h := if_t h hc7
    refine zb_tableIn E dX4_together_1 (tgt := 92) (by rw [hc7]; decide) (by rw [hc7]; decide) (by rw [hc7]; rfl) rfl ?_
    refine zb_ldc2 E dX4_together_92 (v := 1000000000) zw_1002 ?_
    refine zb_ldc2 E dX4_together_95 (v := (-1000000000)) zw_1003 ?_
    refine zb_lload_n E dX4_together_98 1 rfl rfl ?_
    refine zb_lload_n E dX4_together_99 2 rfl rfl ?_
    refine zb_lmul E dX4_together_100 ?_
    refine zb_mmaxL E zYm_mmaxL zw_1004 (by decide) (by first | decide | simp [Value.category]) dX4_together_101 ?_
    refine zb_mminL E zYm_mminL zw_1007 (by decide) (by first | decide | simp [Value.category]) dX4_together_104 ?_
    obtain rfl := zinj1 h
    exact zb_lret E hQ rfl ⟨Nat.zero_le _, Nat.zero_le _⟩ dX4_together_107
  have h := if_f h hc7
  by_cases hc8 : a0 = (-8)
  · have h := if_t h hc8
    refine zb_tableIn E dX4_together_1 (tgt := 76) (by rw [hc8]; decide) (by rw [hc8]; decide) (by rw [hc8]; rfl) rfl ?_
    refine zb_ldc2 E dX4_together_76 (v := 1000000000) zw_1002 ?_
    refine zb_ldc2 E dX4_together_79 (v := (-1000000000)) zw_1003 ?_
    refine zb_lload_n E dX4_together_82 1 rfl rfl ?_
    refine zb_lload_n E dX4_together_83 2 rfl rfl ?_
    refine zb_lsub E dX4_together_84 ?_
    refine zb_mmaxL E zYm_mmaxL zw_1004 (by decide) (by first | decide | simp [Value.category]) dX4_together_85 ?_
    refine zb_mminL E zYm_mminL zw_1007 (by decide) (by first | decide | simp [Value.category]) dX4_together_88 ?_
    obtain rfl := zinj1 h
    exact zb_lret E hQ rfl ⟨Nat.zero_le _, Nat.zero_le _⟩ dX4_together_91
  have h := if_f h hc8
  by_cases hc9 : a0 = (-7)
  · have h := if_t h hc9
    refine zb_tableIn E dX4_together_1 (tgt := 60) (by rw [hc9]; decide) (by rw [hc9]; decide) (by rw [hc9]; rfl) rfl ?_
    refine zb_ldc2 E dX4_together_60 (v := 1000000000) zw_1002 ?_
    refine zb_ldc2 E dX4_together_63 (v := (-1000000000)) zw_1003 ?_
    refine zb_lload_n E dX4_together_66 1 rfl rfl ?_
    refine zb_lload_n E dX4_together_67 2 rfl rfl ?_
    refine zb_ladd E dX4_together_68 ?_
    refine zb_mmaxL E zYm_mmaxL zw_1004 (by decide) (by first | decide | simp [Value.category]) dX4_together_69 ?_
    refine zb_mminL E zYm_mminL zw_1007 (by decide) (by first | decide | simp [Value.category]) dX4_together_72 ?_
    obtain rfl := zinj1 h
    exact zb_lret E hQ rfl ⟨Nat.zero_le _, Nat.zero_le _⟩ dX4_together_75
  have h := if_f h hc9
  have hd : zB C (0, 0) 160 [(0, .int a0), (1, .long a1), (3, .long a3)] [] (I, J, Rr, D) := by
    refine zb_lload_n E dX4_together_160 1 rfl rfl ?_
    refine zb_lload_n E dX4_together_161 2 rfl rfl ?_
    refine zb_lcmp E dX4_together_162 ?_
    refine zb_if_ne E dX4_together_163 (tgt := 170) rfl (fun hc => ?_) (fun hc => ?_)
    · have h := if_f h hc
      refine zb_lconst E dX4_together_170 (v := 0) rfl ?_
      obtain rfl := zinj1 h
      exact zb_lret E hQ rfl ⟨Nat.zero_le _, Nat.zero_le _⟩ dX4_together_171
    · have h := if_t h hc
      refine zb_lconst E dX4_together_166 (v := 1) rfl ?_
      refine zb_goto E dX4_together_167 (tgt := 171) rfl ?_
      obtain rfl := zinj1 h
      exact zb_lret E hQ rfl ⟨Nat.zero_le _, Nat.zero_le _⟩ dX4_together_171
  by_cases hgm15 : a0 = (-15)
  · exact zb_tableIn E dX4_together_1 (tgt := 160) (by rw [hgm15]; decide) (by rw [hgm15]; decide) (by rw [hgm15]; rfl) rfl hd
  have hzgm15 : ¬ (a0).toInt = (-15 : Int) := fun e => hgm15 (Int32.toInt_inj.mp (e.trans (by decide)))
  have hz0 : ¬ (a0).toInt = (-17 : Int) := fun e => hc0 (Int32.toInt_inj.mp (e.trans (by decide)))
  have hz1 : ¬ (a0).toInt = (-16 : Int) := fun e => hc1 (Int32.toInt_inj.mp (e.trans (by decide)))
  have hz2 : ¬ (a0).toInt = (-14 : Int) := fun e => hc2 (Int32.toInt_inj.mp (e.trans (by decide)))
  have hz3 : ¬ (a0).toInt = (-13 : Int) := fun e => hc3 (Int32.toInt_inj.mp (e.trans (by decide)))
  have hz4 : ¬ (a0).toInt = (-12 : Int) := fun e => hc4 (Int32.toInt_inj.mp (e.trans (by decide)))
  have hz5 : ¬ (a0).toInt = (-11 : Int) := fun e => hc5 (Int32.toInt_inj.mp (e.trans (by decide)))
  have hz6 : ¬ (a0).toInt = (-10 : Int) := fun e => hc6 (Int32.toInt_inj.mp (e.trans (by decide)))
  have hz7 : ¬ (a0).toInt = (-9 : Int) := fun e => hc7 (Int32.toInt_inj.mp (e.trans (by decide)))
  have hz8 : ¬ (a0).toInt = (-8 : Int) := fun e => hc8 (Int32.toInt_inj.mp (e.trans (by decide)))
  have hz9 : ¬ (a0).toInt = (-7 : Int) := fun e => hc9 (Int32.toInt_inj.mp (e.trans (by decide)))
  exact zb_tableOut E dX4_together_1 (tgt := 160) (by omega) rfl hd
theorem c_X4_together {l : Launch} {X : zX} {I : Nat → Nat → Int32} {J : Nat → Nat → Int64} {Rr : Nat → Nat → Option Nat} {D : zD} {a0 : Int32} {a1 : Int64} {a3 : Int64} {rr : Int64} (h : pJudge_together a0 a1 a3 = some rr) : zMl l yX4_together cX4_together 5 (some .long) ({ frames := 1, cells := 0, slots := 0, locals := 31 } : Room) X [.int a0, .long a1, .long a3] (I, J, Rr, D) rr (I, J, Rr, D) := by
  refine zMl.of (by decide) (Nat.le_of_ble_eq_true rfl) (fun C E hl hX hQ => ?_)
  subst hl
  subst hX
  have eI0 : I = I := rfl
  have eJ0 : J = J := rfl
  refine zb_S (S2 := (I, J, Rr, D)) (zS_eq eI0.symm eJ0.symm) ?_
  exact c_X4_together_0 a0 a1 a3 rr E hQ h
