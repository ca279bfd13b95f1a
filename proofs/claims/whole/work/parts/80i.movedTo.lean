set_option maxHeartbeats 4000000
set_option maxRecDepth 100000
-- ChequeredCloth$Audit.movedTo
theorem dX1_movedTo_0 : decode cX1_movedTo 0 = .ok (.aload_n 0, 1) := by decide +kernel
theorem dX1_movedTo_1 : decode cX1_movedTo 1 = .ok (.getfield 24, 3) := by decide +kernel
theorem dX1_movedTo_4 : decode cX1_movedTo 4 = .ok (.ireturn, 1) := by decide +kernel
theorem zy_X1_movedTo : zYv yX1_movedTo cX1_movedTo 1 (some .int) 0 := ⟨zw_1137, zw_1138, zw_8, zw_1139, by decide, by decide, by decide⟩
theorem c_X1_movedTo_0 {C : zC} {I : Nat → Nat → Int32} {J : Nat → Nat → Int64} {Rr : Nat → Nat → Option Nat} {D : zD} (v_movedTo : Int32) (e_v_movedTo : I 44 9 = v_movedTo) (rr : Int32) (E : zE C RX1 cX1_movedTo 1 (some .int) ({ frames := 0, cells := 0, slots := 0, locals := 0 } : Room)) (hQ : C.Q = zQi C ({ frames := 0, cells := 0, slots := 0, locals := 0 } : Room) rr (I, J, Rr, D)) (h : pAudit_movedTo v_movedTo = some rr) : zB C (0, 0) 0 [(0, .ref (C.X.1 + 44))] [] (I, J, Rr, D) := by
  refine zb_aload_n E dX1_movedTo_0 0 rfl rfl ?_
  refine zb_get E 44 (by decide) (zF_44 C.X) rfl zin1 9 (by decide) zw_331 (v := .int v_movedTo) (by exact congrArg (fun z => some (Value.int z)) e_v_movedTo) dX1_movedTo_1 ?_
  obtain rfl := zinj1 h
  exact zb_iret E hQ rfl ⟨Nat.zero_le _, Nat.zero_le _⟩ dX1_movedTo_4
theorem c_X1_movedTo {l : Launch} {X : zX} {I : Nat → Nat → Int32} {J : Nat → Nat → Int64} {Rr : Nat → Nat → Option Nat} {D : zD} (v_movedTo : Int32) (e_v_movedTo : I 44 9 = v_movedTo) {rr : Int32} (h : pAudit_movedTo v_movedTo = some rr) : zMi l yX1_movedTo cX1_movedTo 1 (some .int) ({ frames := 0, cells := 0, slots := 0, locals := 0 } : Room) X [.ref (X.1 + 44)] (I, J, Rr, D) rr (I, J, Rr, D) := by
  refine zMi.of (by decide) (Nat.le_of_ble_eq_true rfl) (fun C E hl hX hQ => ?_)
  subst hl
  subst hX
  have eI0 : I = I := rfl
  have eJ0 : J = J := rfl
  refine zb_S (S2 := (I, J, Rr, D)) (zS_eq eI0.symm eJ0.symm) ?_
  exact c_X1_movedTo_0 v_movedTo e_v_movedTo rr E hQ h
