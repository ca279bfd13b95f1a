set_option maxHeartbeats 4000000
set_option maxRecDepth 100000
-- ChequeredCloth$Reader.faultFound
abbrev R_pReader_faultFound : Type := Int32
def pReader_faultFound (v_fault : Int32) : Option R_pReader_faultFound :=
  some v_fault
theorem dX7_faultFound_0 : decode cX7_faultFound 0 = .ok (.aload_n 0, 1) := by decide +kernel
theorem dX7_faultFound_1 : decode cX7_faultFound 1 = .ok (.getfield 32, 3) := by decide +kernel
theorem dX7_faultFound_4 : decode cX7_faultFound 4 = .ok (.ireturn, 1) := by decide +kernel
theorem zy_X7_faultFound : zYv yX7_faultFound cX7_faultFound 1 (some .int) 0 := ⟨zw_870, zw_871, zw_6, zw_872, by decide, by decide, by decide⟩
theorem c_X7_faultFound_0 {C : zC} {I : Nat → Nat → Int32} {J : Nat → Nat → Int64} {Rr : Nat → Nat → Option Nat} {D : zD} (v_fault : Int32) (e_v_fault : I 33 10 = v_fault) (rr : Int32) (E : zE C RX7 cX7_faultFound 1 (some .int) ({ frames := 0, cells := 0, slots := 0, locals := 0 } : Room)) (hQ : C.Q = zQi C ({ frames := 0, cells := 0, slots := 0, locals := 0 } : Room) rr (I, J, Rr, D)) (h : pReader_faultFound v_fault = some rr) : zB C (0, 0) 0 [(0, .ref (C.X.1 + 33))] [] (I, J, Rr, D) := by
  refine zb_aload_n E dX7_faultFound_0 0 rfl rfl ?_
  refine zb_get E 33 (by decide) (zF_33 C.X) rfl zin7 10 (by decide) zw_148 (v := .int v_fault) (by exact congrArg (fun z => some (Value.int z)) e_v_fault) dX7_faultFound_1 ?_
  obtain rfl := zinj1 h
  exact zb_iret E hQ rfl ⟨Nat.zero_le _, Nat.zero_le _⟩ dX7_faultFound_4
theorem c_X7_faultFound {l : Launch} {X : zX} {I : Nat → Nat → Int32} {J : Nat → Nat → Int64} {Rr : Nat → Nat → Option Nat} {D : zD} (v_fault : Int32) (e_v_fault : I 33 10 = v_fault) {rr : Int32} (h : pReader_faultFound v_fault = some rr) : zMi l yX7_faultFound cX7_faultFound 1 (some .int) ({ frames := 0, cells := 0, slots := 0, locals := 0 } : Room) X [.ref (X.1 + 33)] (I, J, Rr, D) rr (I, J, Rr, D) := by
  refine zMi.of (by decide) (Nat.le_of_ble_eq_true rfl) (fun C E hl hX hQ => ?_)
  subst hl
  subst hX
  have eI0 : I = I := rfl
  have eJ0 : J = J := rfl
  refine zb_S (S2 := (I, J, Rr, D)) (zS_eq eI0.symm eJ0.symm) ?_
  exact c_X7_faultFound_0 v_fault e_v_fault rr E hQ h
-- ChequeredCloth$Reader.faultPlace
abbrev R_pReader_faultPlace : Type := Int32
def pReader_faultPlace (v_faultAt : Int32) : Option R_pReader_faultPlace :=
  some v_faultAt
theorem dX7_faultPlace_0 : decode cX7_faultPlace 0 = .ok (.aload_n 0, 1) := by decide +kernel
theorem dX7_faultPlace_1 : decode cX7_faultPlace 1 = .ok (.getfield 25, 3) := by decide +kernel
theorem dX7_faultPlace_4 : decode cX7_faultPlace 4 = .ok (.ireturn, 1) := by decide +kernel
theorem zy_X7_faultPlace : zYv yX7_faultPlace cX7_faultPlace 1 (some .int) 0 := ⟨zw_874, zw_875, zw_6, zw_876, by decide, by decide, by decide⟩
theorem c_X7_faultPlace_0 {C : zC} {I : Nat → Nat → Int32} {J : Nat → Nat → Int64} {Rr : Nat → Nat → Option Nat} {D : zD} (v_faultAt : Int32) (e_v_faultAt : I 33 11 = v_faultAt) (rr : Int32) (E : zE C RX7 cX7_faultPlace 1 (some .int) ({ frames := 0, cells := 0, slots := 0, locals := 0 } : Room)) (hQ : C.Q = zQi C ({ frames := 0, cells := 0, slots := 0, locals := 0 } : Room) rr (I, J, Rr, D)) (h : pReader_faultPlace v_faultAt = some rr) : zB C (0, 0) 0 [(0, .ref (C.X.1 + 33))] [] (I, J, Rr, D) := by
  refine zb_aload_n E dX7_faultPlace_0 0 rfl rfl ?_
  refine zb_get E 33 (by decide) (zF_33 C.X) rfl zin7 11 (by decide) zw_149 (v := .int v_faultAt) (by exact congrArg (fun z => some (Value.int z)) e_v_faultAt) dX7_faultPlace_1 ?_
  obtain rfl := zinj1 h
  exact zb_iret E hQ rfl ⟨Nat.zero_le _, Nat.zero_le _⟩ dX7_faultPlace_4
theorem c_X7_faultPlace {l : Launch} {X : zX} {I : Nat → Nat → Int32} {J : Nat → Nat → Int64} {Rr : Nat → Nat → Option Nat} {D : zD} (v_faultAt : Int32) (e_v_faultAt : I 33 11 = v_faultAt) {rr : Int32} (h : pReader_faultPlace v_faultAt = some rr) : zMi l yX7_faultPlace cX7_faultPlace 1 (some .int) ({ frames := 0, cells := 0, slots := 0, locals := 0 } : Room) X [.ref (X.1 + 33)] (I, J, Rr, D) rr (I, J, Rr, D) := by
  refine zMi.of (by decide) (Nat.le_of_ble_eq_true rfl) (fun C E hl hX hQ => ?_)
  subst hl
  subst hX
  have eI0 : I = I := rfl
  have eJ0 : J = J := rfl
  refine zb_S (S2 := (I, J, Rr, D)) (zS_eq eI0.symm eJ0.symm) ?_
  exact c_X7_faultPlace_0 v_faultAt e_v_faultAt rr E hQ h
