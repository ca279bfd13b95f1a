set_option maxHeartbeats 4000000
set_option maxRecDepth 100000
-- ChequeredCloth$Audit.forgetMoved
theorem dX1_forgetMoved_0 : decode cX1_forgetMoved 0 = .ok (.aload_n 0, 1) := by decide +kernel
theorem dX1_forgetMoved_1 : decode cX1_forgetMoved 1 = .ok (.iconst (-1), 1) := by decide +kernel
theorem dX1_forgetMoved_2 : decode cX1_forgetMoved 2 = .ok (.putfield 24, 3) := by decide +kernel
theorem dX1_forgetMoved_5 : decode cX1_forgetMoved 5 = .ok (.return_, 1) := by decide +kernel
theorem zy_X1_forgetMoved : zYv yX1_forgetMoved cX1_forgetMoved 1 none 0 := ⟨zw_1087, zw_1088, zw_8, zw_1089, by decide, by decide, by decide⟩
theorem c_X1_forgetMoved_0 {C : zC} {I : Nat → Nat → Int32} {J : Nat → Nat → Int64} {Rr : Nat → Nat → Option Nat} {D : zD} (y_v_movedTo : Int32) (E : zE C RX1 cX1_forgetMoved 1 none ({ frames := 0, cells := 0, slots := 0, locals := 0 } : Room)) (hQ : C.Q = zQv C ({ frames := 0, cells := 0, slots := 0, locals := 0 } : Room) ((va_up I 44 (va_up (I 44) 9 y_v_movedTo)), J, Rr, D)) (v_movedTo : Int32) (h : pAudit_forgetMoved v_movedTo = some y_v_movedTo) : zB C (0, 0) 0 [(0, .ref (C.X.1 + 44))] [] ((va_up I 44 (va_up (I 44) 9 v_movedTo)), J, Rr, D) := by
  refine zb_aload_n E dX1_forgetMoved_0 0 rfl rfl ?_
  refine zb_iconst E dX1_forgetMoved_1 (v := (-1)) rfl ?_
  refine zb_put E 44 (by decide) (zF_44 C.X) rfl zin1 9 (by decide) zw_331 tyX1 tyX1_ok nmX1 rfl rfl rfl (I2 := (va_up I 44 (va_up (I 44) 9 (-1)))) (J2 := J) ((zset1_9 C.X (va_up (I 44) 9 v_movedTo) (J 44) (-1)).trans (congrArg (fun g => zf1 C.X g (J 44)) zn1)) (by rw [zflen1]; decide) (fun j hj => ⟨(zup_n hj).trans (zup_n hj).symm, rfl⟩) dX1_forgetMoved_2 ?_
  obtain rfl := zinj1 h
  exact zb_vret E hQ rfl ⟨Nat.zero_le _, Nat.zero_le _⟩ dX1_forgetMoved_5
theorem c_X1_forgetMoved {l : Launch} {X : zX} {I : Nat → Nat → Int32} {J : Nat → Nat → Int64} {Rr : Nat → Nat → Option Nat} {D : zD} (oI44 : Nat → Int32) (eoI44 : I 44 = oI44) (v_movedTo : Int32) (e_v_movedTo : I 44 9 = v_movedTo) {y_v_movedTo : Int32} (h : pAudit_forgetMoved v_movedTo = some y_v_movedTo) : zMv l yX1_forgetMoved cX1_forgetMoved 1 none ({ frames := 0, cells := 0, slots := 0, locals := 0 } : Room) X [.ref (X.1 + 44)] (I, J, Rr, D) ((va_up I 44 (va_up oI44 9 y_v_movedTo)), J, Rr, D) := by
  subst eoI44
  refine zMv.of (by decide) (Nat.le_of_ble_eq_true rfl) (fun C E hl hX hQ => ?_)
  subst hl
  subst hX
  have eI0 : (va_up I 44 (va_up (I 44) 9 v_movedTo)) = I := by rw [zup_idE e_v_movedTo, zup_id]
  have eJ0 : J = J := rfl
  refine zb_S (S2 := ((va_up I 44 (va_up (I 44) 9 v_movedTo)), J, Rr, D)) (zS_eq eI0.symm eJ0.symm) ?_
  exact c_X1_forgetMoved_0 y_v_movedTo E hQ v_movedTo h
