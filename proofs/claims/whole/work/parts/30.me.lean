set_option maxHeartbeats 4000000
set_option maxRecDepth 100000
-- ChequeredClothModel.isPayment
abbrev R_pM_isPayment : Type := Int32
def pM_isPayment (a1 : Int32) (v_actKind : (Nat → Int32)) : Option R_pM_isPayment :=
  gd (ib a1 201) <|
  if (v_actKind (ix a1)) = 2 then
    some 1
  else
    if (v_actKind (ix a1)) = 3 then
      some 1
    else
      some 0
theorem dX12_isPayment_0 : decode cX12_isPayment 0 = .ok (.aload_n 0, 1) := by decide +kernel
theorem dX12_isPayment_1 : decode cX12_isPayment 1 = .ok (.getfield 169, 3) := by decide +kernel
theorem dX12_isPayment_4 : decode cX12_isPayment 4 = .ok (.iload_n 1, 1) := by decide +kernel
theorem dX12_isPayment_5 : decode cX12_isPayment 5 = .ok (.iaload, 1) := by decide +kernel
theorem dX12_isPayment_6 : decode cX12_isPayment 6 = .ok (.iconst 2, 1) := by decide +kernel
theorem dX12_isPayment_7 : decode cX12_isPayment 7 = .ok (.if_icmp .eq 13, 3) := by decide +kernel
theorem dX12_isPayment_10 : decode cX12_isPayment 10 = .ok (.aload_n 0, 1) := by decide +kernel
theorem dX12_isPayment_11 : decode cX12_isPayment 11 = .ok (.getfield 169, 3) := by decide +kernel
theorem dX12_isPayment_14 : decode cX12_isPayment 14 = .ok (.iload_n 1, 1) := by decide +kernel
theorem dX12_isPayment_15 : decode cX12_isPayment 15 = .ok (.iaload, 1) := by decide +kernel
theorem dX12_isPayment_16 : decode cX12_isPayment 16 = .ok (.iconst 3, 1) := by decide +kernel
theorem dX12_isPayment_17 : decode cX12_isPayment 17 = .ok (.if_icmp .ne 7, 3) := by decide +kernel
theorem dX12_isPayment_20 : decode cX12_isPayment 20 = .ok (.iconst 1, 1) := by decide +kernel
theorem dX12_isPayment_21 : decode cX12_isPayment 21 = .ok (.goto 4, 3) := by decide +kernel
theorem dX12_isPayment_24 : decode cX12_isPayment 24 = .ok (.iconst 0, 1) := by decide +kernel
theorem dX12_isPayment_25 : decode cX12_isPayment 25 = .ok (.ireturn, 1) := by decide +kernel
theorem zy_X12_isPayment : zYv yX12_isPayment cX12_isPayment 2 (some .boolean) 1 := ⟨zw_1698, zws_84, zw_12, zw_1699, by decide, by decide, by decide⟩
theorem c_X12_isPayment_0 {C : zC} {I : Nat → Nat → Int32} {J : Nat → Nat → Int64} {Rr : Nat → Nat → Option Nat} {D : zD} (a1 : Int32) (v_actKind : (Nat → Int32)) (e_v_actKind : I 176 = v_actKind) (rr : Int32) (E : zE C RX12 cX12_isPayment 2 (some .boolean) ({ frames := 0, cells := 0, slots := 0, locals := 0 } : Room)) (hQ : C.Q = zQi C ({ frames := 0, cells := 0, slots := 0, locals := 0 } : Room) rr (I, J, Rr, D)) (h : pM_isPayment a1 v_actKind = some rr) : zB C (0, 0) 0 [(0, .ref (C.X.1 + 128)), (1, .int a1)] [] (I, J, Rr, D) := by
  refine zb_aload_n E dX12_isPayment_0 0 rfl rfl ?_
  refine zb_get E 128 (by decide) (zF_128 C.X) rfl zin12 68 (by decide) zw_1236 (v := .ref (C.X.1 + 176)) rfl dX12_isPayment_1 ?_
  refine zb_iload_n E dX12_isPayment_4 1 rfl rfl ?_
  obtain ⟨g1, h⟩ := gd_s h
  refine zb_iald E 176 (by decide) zF_176 (f := v_actKind) (by exact e_v_actKind) (ib_in g1) dX12_isPayment_5 ?_
  refine zb_iconst E dX12_isPayment_6 (v := 2) rfl ?_
  refine zb_icmp_eq E dX12_isPayment_7 (tgt := 20) rfl (fun hc => ?_) (fun hc => ?_)
  · have h := if_t h hc
    refine zb_iconst E dX12_isPayment_20 (v := 1) rfl ?_
    refine zb_goto E dX12_isPayment_21 (tgt := 25) rfl ?_
    cases h
    exact zb_zret E hQ (ty := .boolean) rfl rfl (by decide) dX12_isPayment_25
  · have h := if_f h hc
    refine zb_aload_n E dX12_isPayment_10 0 rfl rfl ?_
    refine zb_get E 128 (by decide) (zF_128 C.X) rfl zin12 68 (by decide) zw_1236 (v := .ref (C.X.1 + 176)) rfl dX12_isPayment_11 ?_
    refine zb_iload_n E dX12_isPayment_14 1 rfl rfl ?_
    refine zb_iald E 176 (by decide) zF_176 (f := v_actKind) (by exact e_v_actKind) (ib_in g1) dX12_isPayment_15 ?_
    refine zb_iconst E dX12_isPayment_16 (v := 3) rfl ?_
    refine zb_icmp_ne E dX12_isPayment_17 (tgt := 24) rfl (fun hc => ?_) (fun hc => ?_)
    · have h := if_f h hc
      refine zb_iconst E dX12_isPayment_24 (v := 0) rfl ?_
      cases h
      exact zb_zret E hQ (ty := .boolean) rfl rfl (by decide) dX12_isPayment_25
    · have h := if_t h hc
      refine zb_iconst E dX12_isPayment_20 (v := 1) rfl ?_
      refine zb_goto E dX12_isPayment_21 (tgt := 25) rfl ?_
      cases h
      exact zb_zret E hQ (ty := .boolean) rfl rfl (by decide) dX12_isPayment_25
theorem c_X12_isPayment {l : Launch} {X : zX} {I : Nat → Nat → Int32} {J : Nat → Nat → Int64} {Rr : Nat → Nat → Option Nat} {D : zD} {a1 : Int32} (v_actKind : (Nat → Int32)) (e_v_actKind : I 176 = v_actKind) {rr : Int32} (h : pM_isPayment a1 v_actKind = some rr) : zMi l yX12_isPayment cX12_isPayment 2 (some .boolean) ({ frames := 0, cells := 0, slots := 0, locals := 0 } : Room) X [.ref (X.1 + 128), .int a1] (I, J, Rr, D) rr (I, J, Rr, D) := by
  refine zMi.of (by decide) (Nat.le_of_ble_eq_true rfl) (fun C E hl hX hQ => ?_)
  subst hl
  subst hX
  have eI0 : I = I := rfl
  have eJ0 : J = J := rfl
  refine zb_S (S2 := (I, J, Rr, D)) (zS_eq eI0.symm eJ0.symm) ?_
  exact c_X12_isPayment_0 a1 v_actKind e_v_actKind rr E hQ h
-- ChequeredClothModel.mayPay
abbrev R_pM_mayPay : Type := Int32
def pM_mayPay_b5_F (N : Nat) (a1 : Int32) (a2 : Int32) (v_acts : Int32) (v_actKind : (Nat → Int32)) (k32 : Int32 → Option R_pM_mayPay) (self : Int32 → Int32 → Option R_pM_mayPay) (x3 : Int32) (x4 : Int32) : Option R_pM_mayPay :=
  if v_acts < x4 then
    k32 x3
  else
    bd1 (pM_isPayment x4 v_actKind) fun rc1 =>
    if rc1 = 0 then
      self x3 (x4 + 1)
    else
      self (x3 + 1) (x4 + 1)
def pM_mayPay_b5 (N : Nat) (a1 : Int32) (a2 : Int32) (v_acts : Int32) (v_actKind : (Nat → Int32)) (k32 : Int32 → Option R_pM_mayPay) : Nat → Int32 → Int32 → Option R_pM_mayPay := zlp2 (pM_mayPay_b5_F N a1 a2 v_acts v_actKind k32)
def pM_mayPay_b32 (N : Nat) (a1 : Int32) (a2 : Int32) (v_acts : Int32) (v_actKind : (Nat → Int32)) (x3 : Int32) : Option R_pM_mayPay :=
  bd1 (pM_isShire a1) fun rc2 =>
  if rc2 = 0 then
    some 0
  else
    bd1 (pM_isTerm a2) fun rc3 =>
    if rc3 = 0 then
      some 0
    else
      if 60 ≤ x3 then
        some 0
      else
        some 1
def pM_mayPay (N : Nat) (a1 : Int32) (a2 : Int32) (v_acts : Int32) (v_actKind : (Nat → Int32)) : Option R_pM_mayPay :=
  pM_mayPay_b5 N a1 a2 v_acts v_actKind (pM_mayPay_b32 N a1 a2 v_acts v_actKind) N 0 1
theorem dX12_mayPay_0 : decode cX12_mayPay 0 = .ok (.iconst 0, 1) := by decide +kernel
theorem dX12_mayPay_1 : decode cX12_mayPay 1 = .ok (.istore_n 3, 1) := by decide +kernel
theorem dX12_mayPay_2 : decode cX12_mayPay 2 = .ok (.iconst 1, 1) := by decide +kernel
theorem dX12_mayPay_3 : decode cX12_mayPay 3 = .ok (.istore 4, 2) := by decide +kernel
theorem dX12_mayPay_5 : decode cX12_mayPay 5 = .ok (.iload 4, 2) := by decide +kernel
theorem dX12_mayPay_7 : decode cX12_mayPay 7 = .ok (.aload_n 0, 1) := by decide +kernel
theorem dX12_mayPay_8 : decode cX12_mayPay 8 = .ok (.getfield 429, 3) := by decide +kernel
theorem dX12_mayPay_11 : decode cX12_mayPay 11 = .ok (.if_icmp .gt 21, 3) := by decide +kernel
theorem dX12_mayPay_14 : decode cX12_mayPay 14 = .ok (.aload_n 0, 1) := by decide +kernel
theorem dX12_mayPay_15 : decode cX12_mayPay 15 = .ok (.iload 4, 2) := by decide +kernel
theorem dX12_mayPay_17 : decode cX12_mayPay 17 = .ok (.invokevirtual 445, 3) := by decide +kernel
theorem dX12_mayPay_20 : decode cX12_mayPay 20 = .ok (.ifCond .eq 6, 3) := by decide +kernel
theorem dX12_mayPay_23 : decode cX12_mayPay 23 = .ok (.iinc 3 1, 3) := by decide +kernel
theorem dX12_mayPay_26 : decode cX12_mayPay 26 = .ok (.iinc 4 1, 3) := by decide +kernel
theorem dX12_mayPay_29 : decode cX12_mayPay 29 = .ok (.goto (-24), 3) := by decide +kernel
theorem dX12_mayPay_32 : decode cX12_mayPay 32 = .ok (.iload_n 1, 1) := by decide +kernel
theorem dX12_mayPay_33 : decode cX12_mayPay 33 = .ok (.invokestatic 448, 3) := by decide +kernel
theorem dX12_mayPay_36 : decode cX12_mayPay 36 = .ok (.ifCond .eq 20, 3) := by decide +kernel
theorem dX12_mayPay_39 : decode cX12_mayPay 39 = .ok (.iload_n 2, 1) := by decide +kernel
theorem dX12_mayPay_40 : decode cX12_mayPay 40 = .ok (.invokestatic 432, 3) := by decide +kernel
theorem dX12_mayPay_43 : decode cX12_mayPay 43 = .ok (.ifCond .eq 13, 3) := by decide +kernel
theorem dX12_mayPay_46 : decode cX12_mayPay 46 = .ok (.iload_n 3, 1) := by decide +kernel
theorem dX12_mayPay_47 : decode cX12_mayPay 47 = .ok (.bipush 60, 2) := by decide +kernel
theorem dX12_mayPay_49 : decode cX12_mayPay 49 = .ok (.if_icmp .ge 7, 3) := by decide +kernel
theorem dX12_mayPay_52 : decode cX12_mayPay 52 = .ok (.iconst 1, 1) := by decide +kernel
theorem dX12_mayPay_53 : decode cX12_mayPay 53 = .ok (.goto 4, 3) := by decide +kernel
theorem dX12_mayPay_56 : decode cX12_mayPay 56 = .ok (.iconst 0, 1) := by decide +kernel
theorem dX12_mayPay_57 : decode cX12_mayPay 57 = .ok (.ireturn, 1) := by decide +kernel
theorem zy_X12_mayPay : zYv yX12_mayPay cX12_mayPay 5 (some .boolean) 2 := ⟨zw_1694, zws_83, zw_12, zw_1695, by decide, by decide, by decide⟩
theorem c_X12_mayPay_b5 {C : zC} {I : Nat → Nat → Int32} {J : Nat → Nat → Int64} {Rr : Nat → Nat → Option Nat} {D : zD} (N : Nat) (a1 : Int32) (a2 : Int32) (v_acts : Int32) (e_v_acts : I 128 67 = v_acts) (v_actKind : (Nat → Int32)) (e_v_actKind : I 176 = v_actKind) (rr : Int32) (E : zE C RX12 cX12_mayPay 5 (some .boolean) ({ frames := 2, cells := 0, slots := 0, locals := 45 } : Room)) (hQ : C.Q = zQi C ({ frames := 2, cells := 0, slots := 0, locals := 45 } : Room) rr (I, J, Rr, D)) (k32 : Int32 → Option R_pM_mayPay) (hk32 : ∀ (x3 : Int32), k32 x3 = some rr → zB C (0, 0) 32 [(1, .int a1), (2, .int a2), (3, .int x3)] [] (I, J, Rr, D)) : ∀ (n9 : Nat) (x3 : Int32) (x4 : Int32), pM_mayPay_b5 N a1 a2 v_acts v_actKind k32 n9 x3 x4 = some rr → zB C (0, 0) 5 [(0, .ref (C.X.1 + 128)), (1, .int a1), (2, .int a2), (3, .int x3), (4, .int x4)] [] (I, J, Rr, D) := by
  refine zlp2_ind (P := fun (x3 : Int32) (x4 : Int32) => zB C (0, 0) 5 [(0, .ref (C.X.1 + 128)), (1, .int a1), (2, .int a2), (3, .int x3), (4, .int x4)] [] (I, J, Rr, D)) (fun self ih => ?_)
  intro x3 x4 h
  refine zb_iload E dX12_mayPay_5 4 rfl ?_
  refine zb_aload_n E dX12_mayPay_7 0 rfl rfl ?_
  refine zb_get E 128 (by decide) (zF_128 C.X) rfl zin12 67 (by decide) zw_1235 (v := .int v_acts) (by exact congrArg (fun z => some (Value.int z)) e_v_acts) dX12_mayPay_8 ?_
  refine zb_icmp_gt E dX12_mayPay_11 (tgt := 32) rfl (fun hc => ?_) (fun hc => ?_)
  · have h := if_t h hc
    refine zb_sub [1, 2, 3] rfl ?_
    exact hk32 x3 h
  · have h := if_f h hc
    refine zb_aload_n E dX12_mayPay_14 0 rfl rfl ?_
    refine zb_iload E dX12_mayPay_15 4 rfl ?_
    obtain ⟨rc1, hc_17, h⟩ := bd1_s h
    refine zb_cVi E [.int x4] 128 zy_X12_isPayment zw_1696 (by decide) (zF_128 _ _ _ _) rfl (c_X12_isPayment v_actKind (by exact e_v_actKind) hc_17) (by decide) rfl rfl (by first | decide | simp [Value.category]) dX12_mayPay_17 (cs2 := (0, 0)) rfl ?_
    refine zb_if_eq E dX12_mayPay_20 (tgt := 26) rfl (fun hc => ?_) (fun hc => ?_)
    · have h := if_t h hc
      refine zb_iinc E dX12_mayPay_26 4 rfl (v := (x4 + 1)) rfl (by decide) (lv2 := [(4, .int (x4 + 1)), (0, .ref (C.X.1 + 128)), (1, .int a1), (2, .int a2), (3, .int x3)]) rfl ?_
      refine zb_goto E dX12_mayPay_29 (tgt := 5) rfl ?_
      refine zb_sub [1, 2, 3, 4, 0] rfl ?_
      exact ih x3 (x4 + 1) h
    · have h := if_f h hc
      refine zb_iinc E dX12_mayPay_23 3 rfl (v := (x3 + 1)) rfl (by decide) (lv2 := [(3, .int (x3 + 1)), (0, .ref (C.X.1 + 128)), (1, .int a1), (2, .int a2), (4, .int x4)]) rfl ?_
      refine zb_iinc E dX12_mayPay_26 4 rfl (v := (x4 + 1)) rfl (by decide) (lv2 := [(4, .int (x4 + 1)), (3, .int (x3 + 1)), (0, .ref (C.X.1 + 128)), (1, .int a1), (2, .int a2)]) rfl ?_
      refine zb_goto E dX12_mayPay_29 (tgt := 5) rfl ?_
      refine zb_sub [2, 3, 4, 1, 0] rfl ?_
      exact ih (x3 + 1) (x4 + 1) h
theorem c_X12_mayPay_b32 {C : zC} {I : Nat → Nat → Int32} {J : Nat → Nat → Int64} {Rr : Nat → Nat → Option Nat} {D : zD} (N : Nat) (a1 : Int32) (a2 : Int32) (v_acts : Int32) (e_v_acts : I 128 67 = v_acts) (v_actKind : (Nat → Int32)) (e_v_actKind : I 176 = v_actKind) (rr : Int32) (E : zE C RX12 cX12_mayPay 5 (some .boolean) ({ frames := 2, cells := 0, slots := 0, locals := 45 } : Room)) (hQ : C.Q = zQi C ({ frames := 2, cells := 0, slots := 0, locals := 45 } : Room) rr (I, J, Rr, D)) (x3 : Int32) (h : pM_mayPay_b32 N a1 a2 v_acts v_actKind x3 = some rr) : zB C (0, 0) 32 [(1, .int a1), (2, .int a2), (3, .int x3)] [] (I, J, Rr, D) := by
  refine zb_iload_n E dX12_mayPay_32 0 rfl rfl ?_
  obtain ⟨rc2, hc_33, h⟩ := bd1_s h
  refine zb_cSi E [.int a1] zy_X12_isShire zw_1700 (c_X12_isShire hc_33) (by decide) rfl rfl (by first | decide | simp [Value.category]) dX12_mayPay_33 (cs2 := (0, 0)) rfl ?_
  refine zb_if_eq E dX12_mayPay_36 (tgt := 56) rfl (fun hc => ?_) (fun hc => ?_)
  · have h := if_t h hc
    refine zb_iconst E dX12_mayPay_56 (v := 0) rfl ?_
    cases h
    exact zb_zret E hQ (ty := .boolean) rfl rfl (by decide) dX12_mayPay_57
  · have h := if_f h hc
    refine zb_iload_n E dX12_mayPay_39 1 rfl rfl ?_
    obtain ⟨rc3, hc_40, h⟩ := bd1_s h
    refine zb_cSi E [.int a2] zy_X12_isTerm zw_1561 (c_X12_isTerm hc_40) (by decide) rfl rfl (by first | decide | simp [Value.category]) dX12_mayPay_40 (cs2 := (0, 0)) rfl ?_
    refine zb_if_eq E dX12_mayPay_43 (tgt := 56) rfl (fun hc => ?_) (fun hc => ?_)
    · have h := if_t h hc
      refine zb_iconst E dX12_mayPay_56 (v := 0) rfl ?_
      cases h
      exact zb_zret E hQ (ty := .boolean) rfl rfl (by decide) dX12_mayPay_57
    · have h := if_f h hc
      refine zb_iload_n E dX12_mayPay_46 2 rfl rfl ?_
      refine zb_bipush E dX12_mayPay_47 (v := 60) rfl ?_
      refine zb_icmp_ge E dX12_mayPay_49 (tgt := 56) rfl (fun hc => ?_) (fun hc => ?_)
      · have h := if_t h hc
        refine zb_iconst E dX12_mayPay_56 (v := 0) rfl ?_
        cases h
        exact zb_zret E hQ (ty := .boolean) rfl rfl (by decide) dX12_mayPay_57
      · have h := if_f h hc
        refine zb_iconst E dX12_mayPay_52 (v := 1) rfl ?_
        refine zb_goto E dX12_mayPay_53 (tgt := 57) rfl ?_
        cases h
        exact zb_zret E hQ (ty := .boolean) rfl rfl (by decide) dX12_mayPay_57
theorem c_X12_mayPay_0 {C : zC} {I : Nat → Nat → Int32} {J : Nat → Nat → Int64} {Rr : Nat → Nat → Option Nat} {D : zD} (N : Nat) (a1 : Int32) (a2 : Int32) (v_acts : Int32) (e_v_acts : I 128 67 = v_acts) (v_actKind : (Nat → Int32)) (e_v_actKind : I 176 = v_actKind) (rr : Int32) (E : zE C RX12 cX12_mayPay 5 (some .boolean) ({ frames := 2, cells := 0, slots := 0, locals := 45 } : Room)) (hQ : C.Q = zQi C ({ frames := 2, cells := 0, slots := 0, locals := 45 } : Room) rr (I, J, Rr, D)) (h : pM_mayPay N a1 a2 v_acts v_actKind = some rr) : zB C (0, 0) 0 [(0, .ref (C.X.1 + 128)), (1, .int a1), (2, .int a2)] [] (I, J, Rr, D) := by
  refine zb_iconst E dX12_mayPay_0 (v := 0) rfl ?_
  refine zb_istore_n E dX12_mayPay_1 rfl (by decide) (lv2 := [(3, .int 0), (0, .ref (C.X.1 + 128)), (1, .int a1), (2, .int a2)]) rfl ?_
  refine zb_iconst E dX12_mayPay_2 (v := 1) rfl ?_
  refine zb_istore E dX12_mayPay_3 (by decide) (lv2 := [(4, .int 1), (3, .int 0), (0, .ref (C.X.1 + 128)), (1, .int a1), (2, .int a2)]) rfl ?_
  refine zb_sub [2, 3, 4, 1, 0] rfl ?_
  exact c_X12_mayPay_b5 N a1 a2 v_acts e_v_acts v_actKind e_v_actKind rr E hQ _ (fun x3_z1 h => c_X12_mayPay_b32 N a1 a2 v_acts e_v_acts v_actKind e_v_actKind rr E hQ x3_z1 h) _ 0 1 h
theorem c_X12_mayPay {l : Launch} {X : zX} {I : Nat → Nat → Int32} {J : Nat → Nat → Int64} {Rr : Nat → Nat → Option Nat} {D : zD} {N : Nat} {a1 : Int32} {a2 : Int32} (v_acts : Int32) (e_v_acts : I 128 67 = v_acts) (v_actKind : (Nat → Int32)) (e_v_actKind : I 176 = v_actKind) {rr : Int32} (h : pM_mayPay N a1 a2 v_acts v_actKind = some rr) : zMi l yX12_mayPay cX12_mayPay 5 (some .boolean) ({ frames := 2, cells := 0, slots := 0, locals := 45 } : Room) X [.ref (X.1 + 128), .int a1, .int a2] (I, J, Rr, D) rr (I, J, Rr, D) := by
  refine zMi.of (by decide) (Nat.le_of_ble_eq_true rfl) (fun C E hl hX hQ => ?_)
  subst hl
  subst hX
  have eI0 : I = I := rfl
  have eJ0 : J = J := rfl
  refine zb_S (S2 := (I, J, Rr, D)) (zS_eq eI0.symm eJ0.symm) ?_
  exact c_X12_mayPay_0 N a1 a2 v_acts e_v_acts v_actKind e_v_actKind rr E hQ h
-- ChequeredClothModel.pays
abbrev R_pM_pays : Type := Int32 × Int32 × (Nat → Int32) × (Nat → Int32) × (Nat → Int32) × (Nat → Int32) × (Nat → Int32)
def pM_pays (N : Nat) (a1 : Int32) (a2 : Int32) (a3 : Int32) (v_acts : Int32) (v_actKind : (Nat → Int32)) (v_actNumber : (Nat → Int32)) (v_actShire : (Nat → Int32)) (v_actTerm : (Nat → Int32)) (v_voidAt : (Nat → Int32)) : Option R_pM_pays :=
  bd1 (pM_mayPay N a1 a2 v_acts v_actKind) fun rc1 =>
  if rc1 = 0 then
    some ((-1), v_acts, v_actKind, v_actNumber, v_actShire, v_actTerm, v_voidAt)
  else
    bd1 (pM_isIn (i2l a3) 1 1000000) fun rc2 =>
    if rc2 = 0 then
      some ((-1), v_acts, v_actKind, v_actNumber, v_actShire, v_actTerm, v_voidAt)
    else
      bd7 (pM_act 2 a1 a2 a3 v_acts v_actKind v_actNumber v_actShire v_actTerm v_voidAt) fun rc3 v_acts_c3 v_actKind_c3 v_actNumber_c3 v_actShire_c3 v_actTerm_c3 v_voidAt_c3 =>
      some (rc3, v_acts_c3, v_actKind_c3, v_actNumber_c3, v_actShire_c3, v_actTerm_c3, v_voidAt_c3)
theorem dX12_pays_0 : decode cX12_pays 0 = .ok (.aload_n 0, 1) := by decide +kernel
theorem dX12_pays_1 : decode cX12_pays 1 = .ok (.iload_n 1, 1) := by decide +kernel
theorem dX12_pays_2 : decode cX12_pays 2 = .ok (.iload_n 2, 1) := by decide +kernel
theorem dX12_pays_3 : decode cX12_pays 3 = .ok (.invokevirtual 451, 3) := by decide +kernel
theorem dX12_pays_6 : decode cX12_pays 6 = .ok (.ifCond .eq 26, 3) := by decide +kernel
theorem dX12_pays_9 : decode cX12_pays 9 = .ok (.iload_n 3, 1) := by decide +kernel
theorem dX12_pays_10 : decode cX12_pays 10 = .ok (.i2l, 1) := by decide +kernel
theorem dX12_pays_11 : decode cX12_pays 11 = .ok (.lconst 1, 1) := by decide +kernel
theorem dX12_pays_12 : decode cX12_pays 12 = .ok (.ldc2_w 454, 3) := by decide +kernel
theorem dX12_pays_15 : decode cX12_pays 15 = .ok (.invokestatic 199, 3) := by decide +kernel
theorem dX12_pays_18 : decode cX12_pays 18 = .ok (.ifCond .eq 14, 3) := by decide +kernel
theorem dX12_pays_21 : decode cX12_pays 21 = .ok (.aload_n 0, 1) := by decide +kernel
theorem dX12_pays_22 : decode cX12_pays 22 = .ok (.iconst 2, 1) := by decide +kernel
theorem dX12_pays_23 : decode cX12_pays 23 = .ok (.iload_n 1, 1) := by decide +kernel
theorem dX12_pays_24 : decode cX12_pays 24 = .ok (.iload_n 2, 1) := by decide +kernel
theorem dX12_pays_25 : decode cX12_pays 25 = .ok (.iload_n 3, 1) := by decide +kernel
theorem dX12_pays_26 : decode cX12_pays 26 = .ok (.invokevirtual 438, 3) := by decide +kernel
theorem dX12_pays_29 : decode cX12_pays 29 = .ok (.goto 4, 3) := by decide +kernel
theorem dX12_pays_32 : decode cX12_pays 32 = .ok (.iconst (-1), 1) := by decide +kernel
theorem dX12_pays_33 : decode cX12_pays 33 = .ok (.ireturn, 1) := by decide +kernel
theorem zy_X12_pays : zYv yX12_pays cX12_pays 4 (some .int) 3 := ⟨zw_1689, zw_1690, zw_12, zw_1691, by decide, by decide, by decide⟩
theorem c_X12_pays_0 {C : zC} {I : Nat → Nat → Int32} {J : Nat → Nat → Int64} {Rr : Nat → Nat → Option Nat} {D : zD} (N : Nat) (a1 : Int32) (a2 : Int32) (a3 : Int32) (rr : Int32) (y_v_acts : Int32) (y_v_actKind : (Nat → Int32)) (y_v_actNumber : (Nat → Int32)) (y_v_actShire : (Nat → Int32)) (y_v_actTerm : (Nat → Int32)) (y_v_voidAt : (Nat → Int32)) (E : zE C RX12 cX12_pays 4 (some .int) ({ frames := 3, cells := 0, slots := 0, locals := 69 } : Room)) (hQ : C.Q = zQi C ({ frames := 3, cells := 0, slots := 0, locals := 69 } : Room) rr ((va_up (va_up (va_up (va_up (va_up (va_up I 128 (va_up (I 128) 67 y_v_acts)) 176 y_v_actKind) 177 y_v_actTerm) 178 y_v_actShire) 179 y_v_actNumber) 180 y_v_voidAt), J, Rr, D)) (v_acts : Int32) (v_actKind : (Nat → Int32)) (v_actNumber : (Nat → Int32)) (v_actShire : (Nat → Int32)) (v_actTerm : (Nat → Int32)) (v_voidAt : (Nat → Int32)) (h : pM_pays N a1 a2 a3 v_acts v_actKind v_actNumber v_actShire v_actTerm v_voidAt = some (rr, y_v_acts, y_v_actKind, y_v_actNumber, y_v_actShire, y_v_actTerm, y_v_voidAt)) : zB C (0, 0) 0 [(0, .ref (C.X.1 + 128)), (1, .int a1), (2, .int a2), (3, .int a3)] [] ((va_up (va_up (va_up (va_up (va_up (va_up I 128 (va_up (I 128) 67 v_acts)) 176 v_actKind) 177 v_actTerm) 178 v_actShire) 179 v_actNumber) 180 v_voidAt), J, Rr, D) := by
  refine zb_aload_n E dX12_pays_0 0 rfl rfl ?_
  refine zb_iload_n E dX12_pays_1 1 rfl rfl ?_
  refine zb_iload_n E dX12_pays_2 2 rfl rfl ?_
  obtain ⟨rc1, hc_3, h⟩ := bd1_s h
  refine zb_cVi E [.int a1, .int a2] 128 zy_X12_mayPay zw_1692 (by decide) (zF_128 _ _ _ _) rfl (c_X12_mayPay v_acts rfl v_actKind rfl hc_3) (by decide) rfl rfl (by first | decide | simp [Value.category]) dX12_pays_3 (cs2 := (0, 0)) rfl ?_
  refine zb_if_eq E dX12_pays_6 (tgt := 32) rfl (fun hc => ?_) (fun hc => ?_)
  · have h := if_t h hc
    refine zb_iconst E dX12_pays_32 (v := (-1)) rfl ?_
    cases h
    exact zb_iret E hQ rfl (by decide) dX12_pays_33
  · have h := if_f h hc
    refine zb_iload_n E dX12_pays_9 3 rfl rfl ?_
    refine zb_i2l E dX12_pays_10 ?_
    refine zb_lconst E dX12_pays_11 (v := 1) rfl ?_
    refine zb_ldc2 E dX12_pays_12 (v := 1000000) zw_1704 ?_
    obtain ⟨rc2, hc_15, h⟩ := bd1_s h
    refine zb_cSi E [.long (i2l a3), .long 1, .long 1000000] zy_X12_isIn zw_1429 (c_X12_isIn hc_15) (by decide) rfl rfl (by first | decide | simp [Value.category]) dX12_pays_15 (cs2 := (0, 0)) rfl ?_
    refine zb_if_eq E dX12_pays_18 (tgt := 32) rfl (fun hc => ?_) (fun hc => ?_)
    · have h := if_t h hc
      refine zb_iconst E dX12_pays_32 (v := (-1)) rfl ?_
      cases h
      exact zb_iret E hQ rfl (by decide) dX12_pays_33
    · have h := if_f h hc
      refine zb_aload_n E dX12_pays_21 0 rfl rfl ?_
      refine zb_iconst E dX12_pays_22 (v := 2) rfl ?_
      refine zb_iload_n E dX12_pays_23 1 rfl rfl ?_
      refine zb_iload_n E dX12_pays_24 2 rfl rfl ?_
      refine zb_iload_n E dX12_pays_25 3 rfl rfl ?_
      obtain ⟨rc3, v_acts_c3, v_actKind_c3, v_actNumber_c3, v_actShire_c3, v_actTerm_c3, v_voidAt_c3, hc_26, h⟩ := bd7_s h
      refine zb_cVi E [.int 2, .int a1, .int a2, .int a3] 128 zy_X12_act zw_1676 (by decide) (zF_128 _ _ _ _) rfl (c_X12_act (va_up (I 128) 67 v_acts) rfl v_acts rfl v_actKind rfl v_actNumber rfl v_actShire rfl v_actTerm rfl v_voidAt rfl hc_26) (by decide) rfl rfl (by first | decide | simp [Value.category]) dX12_pays_26 (cs2 := (0, 0)) rfl ?_
      refine zb_S (S2 := ((va_up (va_up (va_up (va_up (va_up (va_up I 128 (va_up (I 128) 67 v_acts_c3)) 176 v_actKind_c3) 177 v_actTerm_c3) 178 v_actShire_c3) 179 v_actNumber_c3) 180 v_voidAt_c3), J, Rr, D)) (zS_eq ((zcgF ((zcgF ((zcgF ((zcgF ((zcgF ((zcgV zn1).trans (zn6 (by decide : (180 : Nat) ≠ 128) (by decide : (179 : Nat) ≠ 128) (by decide : (178 : Nat) ≠ 128) (by decide : (177 : Nat) ≠ 128) (by decide : (176 : Nat) ≠ 128)))).trans (zn5 (by decide : (180 : Nat) ≠ 176) (by decide : (179 : Nat) ≠ 176) (by decide : (178 : Nat) ≠ 176) (by decide : (177 : Nat) ≠ 176)))).trans (zn4 (by decide : (180 : Nat) ≠ 177) (by decide : (179 : Nat) ≠ 177) (by decide : (178 : Nat) ≠ 177)))).trans (zn3 (by decide : (180 : Nat) ≠ 178) (by decide : (179 : Nat) ≠ 178)))).trans (zn2 (by decide : (180 : Nat) ≠ 179)))).trans zn1) rfl) ?_
      refine zb_goto E dX12_pays_29 (tgt := 33) rfl ?_
      cases h
      exact zb_iret E hQ rfl (by decide) dX12_pays_33
theorem c_X12_pays {l : Launch} {X : zX} {I : Nat → Nat → Int32} {J : Nat → Nat → Int64} {Rr : Nat → Nat → Option Nat} {D : zD} {N : Nat} {a1 : Int32} {a2 : Int32} {a3 : Int32} (oI128 : Nat → Int32) (eoI128 : I 128 = oI128) (v_acts : Int32) (e_v_acts : I 128 67 = v_acts) (v_actKind : (Nat → Int32)) (e_v_actKind : I 176 = v_actKind) (v_actNumber : (Nat → Int32)) (e_v_actNumber : I 179 = v_actNumber) (v_actShire : (Nat → Int32)) (e_v_actShire : I 178 = v_actShire) (v_actTerm : (Nat → Int32)) (e_v_actTerm : I 177 = v_actTerm) (v_voidAt : (Nat → Int32)) (e_v_voidAt : I 180 = v_voidAt) {rr : Int32} {y_v_acts : Int32} {y_v_actKind : (Nat → Int32)} {y_v_actNumber : (Nat → Int32)} {y_v_actShire : (Nat → Int32)} {y_v_actTerm : (Nat → Int32)} {y_v_voidAt : (Nat → Int32)} (h : pM_pays N a1 a2 a3 v_acts v_actKind v_actNumber v_actShire v_actTerm v_voidAt = some (rr, y_v_acts, y_v_actKind, y_v_actNumber, y_v_actShire, y_v_actTerm, y_v_voidAt)) : zMi l yX12_pays cX12_pays 4 (some .int) ({ frames := 3, cells := 0, slots := 0, locals := 69 } : Room) X [.ref (X.1 + 128), .int a1, .int a2, .int a3] (I, J, Rr, D) rr ((va_up (va_up (va_up (va_up (va_up (va_up I 128 (va_up oI128 67 y_v_acts)) 176 y_v_actKind) 177 y_v_actTerm) 178 y_v_actShire) 179 y_v_actNumber) 180 y_v_voidAt), J, Rr, D) := by
  subst eoI128
  refine zMi.of (by decide) (Nat.le_of_ble_eq_true rfl) (fun C E hl hX hQ => ?_)
  subst hl
  subst hX
  have eI0 : (va_up (va_up (va_up (va_up (va_up (va_up I 128 (va_up (I 128) 67 v_acts)) 176 v_actKind) 177 v_actTerm) 178 v_actShire) 179 v_actNumber) 180 v_voidAt) = I := by rw [zup_idE e_v_acts, zup_id, zup_idE e_v_actKind, zup_idE e_v_actTerm, zup_idE e_v_actShire, zup_idE e_v_actNumber, zup_idE e_v_voidAt]
  have eJ0 : J = J := rfl
  refine zb_S (S2 := ((va_up (va_up (va_up (va_up (va_up (va_up I 128 (va_up (I 128) 67 v_acts)) 176 v_actKind) 177 v_actTerm) 178 v_actShire) 179 v_actNumber) 180 v_voidAt), J, Rr, D)) (zS_eq eI0.symm eJ0.symm) ?_
  exact c_X12_pays_0 N a1 a2 a3 rr y_v_acts y_v_actKind y_v_actNumber y_v_actShire y_v_actTerm y_v_voidAt E hQ v_acts v_actKind v_actNumber v_actShire v_actTerm v_voidAt h
-- ChequeredClothModel.tally
abbrev R_pM_tally : Type := Int32 × Int32 × (Nat → Int32) × (Nat → Int32) × (Nat → Int32) × (Nat → Int32) × (Nat → Int32)
def pM_tally (N : Nat) (a1 : Int32) (a2 : Int32) (a3 : Int32) (v_acts : Int32) (v_actKind : (Nat → Int32)) (v_actNumber : (Nat → Int32)) (v_actShire : (Nat → Int32)) (v_actTerm : (Nat → Int32)) (v_voidAt : (Nat → Int32)) : Option R_pM_tally :=
  bd1 (pM_mayPay N a1 a2 v_acts v_actKind) fun rc1 =>
  if rc1 = 0 then
    some ((-1), v_acts, v_actKind, v_actNumber, v_actShire, v_actTerm, v_voidAt)
  else
    bd1 (pM_isIn (i2l a3) 0 9) fun rc2 =>
    if rc2 = 0 then
      some ((-1), v_acts, v_actKind, v_actNumber, v_actShire, v_actTerm, v_voidAt)
    else
      bd7 (pM_act 3 a1 a2 a3 v_acts v_actKind v_actNumber v_actShire v_actTerm v_voidAt) fun rc3 v_acts_c3 v_actKind_c3 v_actNumber_c3 v_actShire_c3 v_actTerm_c3 v_voidAt_c3 =>
      some (rc3, v_acts_c3, v_actKind_c3, v_actNumber_c3, v_actShire_c3, v_actTerm_c3, v_voidAt_c3)
theorem dX12_tally_0 : decode cX12_tally 0 = .ok (.aload_n 0, 1) := by decide +kernel
theorem dX12_tally_1 : decode cX12_tally 1 = .ok (.iload_n 1, 1) := by decide +kernel
theorem dX12_tally_2 : decode cX12_tally 2 = .ok (.iload_n 2, 1) := by decide +kernel
theorem dX12_tally_3 : decode cX12_tally 3 = .ok (.invokevirtual 451, 3) := by decide +kernel
theorem dX12_tally_6 : decode cX12_tally 6 = .ok (.ifCond .eq 26, 3) := by decide +kernel
theorem dX12_tally_9 : decode cX12_tally 9 = .ok (.iload_n 3, 1) := by decide +kernel
theorem dX12_tally_10 : decode cX12_tally 10 = .ok (.i2l, 1) := by decide +kernel
theorem dX12_tally_11 : decode cX12_tally 11 = .ok (.lconst 0, 1) := by decide +kernel
theorem dX12_tally_12 : decode cX12_tally 12 = .ok (.ldc2_w 229, 3) := by decide +kernel
theorem dX12_tally_15 : decode cX12_tally 15 = .ok (.invokestatic 199, 3) := by decide +kernel
theorem dX12_tally_18 : decode cX12_tally 18 = .ok (.ifCond .eq 14, 3) := by decide +kernel
theorem dX12_tally_21 : decode cX12_tally 21 = .ok (.aload_n 0, 1) := by decide +kernel
theorem dX12_tally_22 : decode cX12_tally 22 = .ok (.iconst 3, 1) := by decide +kernel
theorem dX12_tally_23 : decode cX12_tally 23 = .ok (.iload_n 1, 1) := by decide +kernel
theorem dX12_tally_24 : decode cX12_tally 24 = .ok (.iload_n 2, 1) := by decide +kernel
theorem dX12_tally_25 : decode cX12_tally 25 = .ok (.iload_n 3, 1) := by decide +kernel
theorem dX12_tally_26 : decode cX12_tally 26 = .ok (.invokevirtual 438, 3) := by decide +kernel
theorem dX12_tally_29 : decode cX12_tally 29 = .ok (.goto 4, 3) := by decide +kernel
theorem dX12_tally_32 : decode cX12_tally 32 = .ok (.iconst (-1), 1) := by decide +kernel
theorem dX12_tally_33 : decode cX12_tally 33 = .ok (.ireturn, 1) := by decide +kernel
theorem zy_X12_tally : zYv yX12_tally cX12_tally 4 (some .int) 3 := ⟨zw_1706, zw_1707, zw_12, zw_1708, by decide, by decide, by decide⟩
theorem c_X12_tally_0 {C : zC} {I : Nat → Nat → Int32} {J : Nat → Nat → Int64} {Rr : Nat → Nat → Option Nat} {D : zD} (N : Nat) (a1 : Int32) (a2 : Int32) (a3 : Int32) (rr : Int32) (y_v_acts : Int32) (y_v_actKind : (Nat → Int32)) (y_v_actNumber : (Nat → Int32)) (y_v_actShire : (Nat → Int32)) (y_v_actTerm : (Nat → Int32)) (y_v_voidAt : (Nat → Int32)) (E : zE C RX12 cX12_tally 4 (some .int) ({ frames := 3, cells := 0, slots := 0, locals := 69 } : Room)) (hQ : C.Q = zQi C ({ frames := 3, cells := 0, slots := 0, locals := 69 } : Room) rr ((va_up (va_up (va_up (va_up (va_up (va_up I 128 (va_up (I 128) 67 y_v_acts)) 176 y_v_actKind) 177 y_v_actTerm) 178 y_v_actShire) 179 y_v_actNumber) 180 y_v_voidAt), J, Rr, D)) (v_acts : Int32) (v_actKind : (Nat → Int32)) (v_actNumber : (Nat → Int32)) (v_actShire : (Nat → Int32)) (v_actTerm : (Nat → Int32)) (v_voidAt : (Nat → Int32)) (h : pM_tally N a1 a2 a3 v_acts v_actKind v_actNumber v_actShire v_actTerm v_voidAt = some (rr, y_v_acts, y_v_actKind, y_v_actNumber, y_v_actShire, y_v_actTerm, y_v_voidAt)) : zB C (0, 0) 0 [(0, .ref (C.X.1 + 128)), (1, .int a1), (2, .int a2), (3, .int a3)] [] ((va_up (va_up (va_up (va_up (va_up (va_up I 128 (va_up (I 128) 67 v_acts)) 176 v_actKind) 177 v_actTerm) 178 v_actShire) 179 v_actNumber) 180 v_voidAt), J, Rr, D) := by
  refine zb_aload_n E dX12_tally_0 0 rfl rfl ?_
  refine zb_iload_n E dX12_tally_1 1 rfl rfl ?_
  refine zb_iload_n E dX12_tally_2 2 rfl rfl ?_
  obtain ⟨rc1, hc_3, h⟩ := bd1_s h
  refine zb_cVi E [.int a1, .int a2] 128 zy_X12_mayPay zw_1692 (by decide) (zF_128 _ _ _ _) rfl (c_X12_mayPay v_acts rfl v_actKind rfl hc_3) (by decide) rfl rfl (by first | decide | simp [Value.category]) dX12_tally_3 (cs2 := (0, 0)) rfl ?_
  refine zb_if_eq E dX12_tally_6 (tgt := 32) rfl (fun hc => ?_) (fun hc => ?_)
  · have h := if_t h hc
    refine zb_iconst E dX12_tally_32 (v := (-1)) rfl ?_
    cases h
    exact zb_iret E hQ rfl (by decide) dX12_tally_33
  · have h := if_f h hc
    refine zb_iload_n E dX12_tally_9 3 rfl rfl ?_
    refine zb_i2l E dX12_tally_10 ?_
    refine zb_lconst E dX12_tally_11 (v := 0) rfl ?_
    refine zb_ldc2 E dX12_tally_12 (v := 9) zw_1490 ?_
    obtain ⟨rc2, hc_15, h⟩ := bd1_s h
    refine zb_cSi E [.long (i2l a3), .long 0, .long 9] zy_X12_isIn zw_1429 (c_X12_isIn hc_15) (by decide) rfl rfl (by first | decide | simp [Value.category]) dX12_tally_15 (cs2 := (0, 0)) rfl ?_
    refine zb_if_eq E dX12_tally_18 (tgt := 32) rfl (fun hc => ?_) (fun hc => ?_)
    · have h := if_t h hc
      refine zb_iconst E dX12_tally_32 (v := (-1)) rfl ?_
      cases h
      exact zb_iret E hQ rfl (by decide) dX12_tally_33
    · have h := if_f h hc
      refine zb_aload_n E dX12_tally_21 0 rfl rfl ?_
      refine zb_iconst E dX12_tally_22 (v := 3) rfl ?_
      refine zb_iload_n E dX12_tally_23 1 rfl rfl ?_
      refine zb_iload_n E dX12_tally_24 2 rfl rfl ?_
      refine zb_iload_n E dX12_tally_25 3 rfl rfl ?_
      obtain ⟨rc3, v_acts_c3, v_actKind_c3, v_actNumber_c3, v_actShire_c3, v_actTerm_c3, v_voidAt_c3, hc_26, h⟩ := bd7_s h
      refine zb_cVi E [.int 3, .int a1, .int a2, .int a3] 128 zy_X12_act zw_1676 (by decide) (zF_128 _ _ _ _) rfl (c_X12_act (va_up (I 128) 67 v_acts) rfl v_acts rfl v_actKind rfl v_actNumber rfl v_actShire rfl v_actTerm rfl v_voidAt rfl hc_26) (by decide) rfl rfl (by first | decide | simp [Value.category]) dX12_tally_26 (cs2 := (0, 0)) rfl ?_
      refine zb_S (S2 := ((va_up (va_up (va_up (va_up (va_up (va_up I 128 (va_up (I 128) 67 v_acts_c3)) 176 v_actKind_c3) 177 v_actTerm_c3) 178 v_actShire_c3) 179 v_actNumber_c3) 180 v_voidAt_c3), J, Rr, D)) (zS_eq ((zcgF ((zcgF ((zcgF ((zcgF ((zcgF ((zcgV zn1).trans (zn6 (by decide : (180 : Nat) ≠ 128) (by decide : (179 : Nat) ≠ 128) (by decide : (178 : Nat) ≠ 128) (by decide : (177 : Nat) ≠ 128) (by decide : (176 : Nat) ≠ 128)))).trans (zn5 (by decide : (180 : Nat) ≠ 176) (by decide : (179 : Nat) ≠ 176) (by decide : (178 : Nat) ≠ 176) (by decide : (177 : Nat) ≠ 176)))).trans (zn4 (by decide : (180 : Nat) ≠ 177) (by decide : (179 : Nat) ≠ 177) (by decide : (178 : Nat) ≠ 177)))).trans (zn3 (by decide : (180 : Nat) ≠ 178) (by decide : (179 : Nat) ≠ 178)))).trans (zn2 (by decide : (180 : Nat) ≠ 179)))).trans zn1) rfl) ?_
      refine zb_goto E dX12_tally_29 (tgt := 33) rfl ?_
      cases h
      exact zb_iret E hQ rfl (by decide) dX12_tally_33
theorem c_X12_tally {l : Launch} {X : zX} {I : Nat → Nat → Int32} {J : Nat → Nat → Int64} {Rr : Nat → Nat → Option Nat} {D : zD} {N : Nat} {a1 : Int32} {a2 : Int32} {a3 : Int32} (oI128 : Nat → Int32) (eoI128 : I 128 = oI128) (v_acts : Int32) (e_v_acts : I 128 67 = v_acts) (v_actKind : (Nat → Int32)) (e_v_actKind : I 176 = v_actKind) (v_actNumber : (Nat → Int32)) (e_v_actNumber : I 179 = v_actNumber) (v_actShire : (Nat → Int32)) (e_v_actShire : I 178 = v_actShire) (v_actTerm : (Nat → Int32)) (e_v_actTerm : I 177 = v_actTerm) (v_voidAt : (Nat → Int32)) (e_v_voidAt : I 180 = v_voidAt) {rr : Int32} {y_v_acts : Int32} {y_v_actKind : (Nat → Int32)} {y_v_actNumber : (Nat → Int32)} {y_v_actShire : (Nat → Int32)} {y_v_actTerm : (Nat → Int32)} {y_v_voidAt : (Nat → Int32)} (h : pM_tally N a1 a2 a3 v_acts v_actKind v_actNumber v_actShire v_actTerm v_voidAt = some (rr, y_v_acts, y_v_actKind, y_v_actNumber, y_v_actShire, y_v_actTerm, y_v_voidAt)) : zMi l yX12_tally cX12_tally 4 (some .int) ({ frames := 3, cells := 0, slots := 0, locals := 69 } : Room) X [.ref (X.1 + 128), .int a1, .int a2, .int a3] (I, J, Rr, D) rr ((va_up (va_up (va_up (va_up (va_up (va_up I 128 (va_up oI128 67 y_v_acts)) 176 y_v_actKind) 177 y_v_actTerm) 178 y_v_actShire) 179 y_v_actNumber) 180 y_v_voidAt), J, Rr, D) := by
  subst eoI128
  refine zMi.of (by decide) (Nat.le_of_ble_eq_true rfl) (fun C E hl hX hQ => ?_)
  subst hl
  subst hX
  have eI0 : (va_up (va_up (va_up (va_up (va_up (va_up I 128 (va_up (I 128) 67 v_acts)) 176 v_actKind) 177 v_actTerm) 178 v_actShire) 179 v_actNumber) 180 v_voidAt) = I := by rw [zup_idE e_v_acts, zup_id, zup_idE e_v_actKind, zup_idE e_v_actTerm, zup_idE e_v_actShire, zup_idE e_v_actNumber, zup_idE e_v_voidAt]
  have eJ0 : J = J := rfl
  refine zb_S (S2 := ((va_up (va_up (va_up (va_up (va_up (va_up I 128 (va_up (I 128) 67 v_acts)) 176 v_actKind) 177 v_actTerm) 178 v_actShire) 179 v_actNumber) 180 v_voidAt), J, Rr, D)) (zS_eq eI0.symm eJ0.symm) ?_
  exact c_X12_tally_0 N a1 a2 a3 rr y_v_acts y_v_actKind y_v_actNumber y_v_actShire y_v_actTerm y_v_voidAt E hQ v_acts v_actKind v_actNumber v_actShire v_actTerm v_voidAt h
-- ChequeredClothModel.fire
abbrev R_pM_fire : Type := Int32 × Int32 × (Nat → Int32) × (Nat → Int32) × (Nat → Int32) × (Nat → Int32) × (Nat → Int32)
def pM_fire (a1 : Int32) (a2 : Int32) (v_acts : Int32) (v_actKind : (Nat → Int32)) (v_actNumber : (Nat → Int32)) (v_actShire : (Nat → Int32)) (v_actTerm : (Nat → Int32)) (v_voidAt : (Nat → Int32)) : Option R_pM_fire :=
  bd1 (pM_isTerm a1) fun rc1 =>
  if rc1 = 0 then
    some ((-1), v_acts, v_actKind, v_actNumber, v_actShire, v_actTerm, v_voidAt)
  else
    bd1 (pM_isIn (i2l a2) 0 120) fun rc2 =>
    if rc2 = 0 then
      some ((-1), v_acts, v_actKind, v_actNumber, v_actShire, v_actTerm, v_voidAt)
    else
      bd7 (pM_act 4 0 a1 a2 v_acts v_actKind v_actNumber v_actShire v_actTerm v_voidAt) fun rc3 v_acts_c3 v_actKind_c3 v_actNumber_c3 v_actShire_c3 v_actTerm_c3 v_voidAt_c3 =>
      some (rc3, v_acts_c3, v_actKind_c3, v_actNumber_c3, v_actShire_c3, v_actTerm_c3, v_voidAt_c3)
theorem dX12_fire_0 : decode cX12_fire 0 = .ok (.iload_n 1, 1) := by decide +kernel
theorem dX12_fire_1 : decode cX12_fire 1 = .ok (.invokestatic 432, 3) := by decide +kernel
theorem dX12_fire_4 : decode cX12_fire 4 = .ok (.ifCond .eq 26, 3) := by decide +kernel
theorem dX12_fire_7 : decode cX12_fire 7 = .ok (.iload_n 2, 1) := by decide +kernel
theorem dX12_fire_8 : decode cX12_fire 8 = .ok (.i2l, 1) := by decide +kernel
theorem dX12_fire_9 : decode cX12_fire 9 = .ok (.lconst 0, 1) := by decide +kernel
theorem dX12_fire_10 : decode cX12_fire 10 = .ok (.ldc2_w 456, 3) := by decide +kernel
theorem dX12_fire_13 : decode cX12_fire 13 = .ok (.invokestatic 199, 3) := by decide +kernel
theorem dX12_fire_16 : decode cX12_fire 16 = .ok (.ifCond .eq 14, 3) := by decide +kernel
theorem dX12_fire_19 : decode cX12_fire 19 = .ok (.aload_n 0, 1) := by decide +kernel
theorem dX12_fire_20 : decode cX12_fire 20 = .ok (.iconst 4, 1) := by decide +kernel
theorem dX12_fire_21 : decode cX12_fire 21 = .ok (.iconst 0, 1) := by decide +kernel
theorem dX12_fire_22 : decode cX12_fire 22 = .ok (.iload_n 1, 1) := by decide +kernel
theorem dX12_fire_23 : decode cX12_fire 23 = .ok (.iload_n 2, 1) := by decide +kernel
theorem dX12_fire_24 : decode cX12_fire 24 = .ok (.invokevirtual 438, 3) := by decide +kernel
theorem dX12_fire_27 : decode cX12_fire 27 = .ok (.goto 4, 3) := by decide +kernel
theorem dX12_fire_30 : decode cX12_fire 30 = .ok (.iconst (-1), 1) := by decide +kernel
theorem dX12_fire_31 : decode cX12_fire 31 = .ok (.ireturn, 1) := by decide +kernel
theorem zy_X12_fire : zYv yX12_fire cX12_fire 3 (some .int) 2 := ⟨zw_1710, zw_1711, zw_12, zw_1712, by decide, by decide, by decide⟩
theorem c_X12_fire_0 {C : zC} {I : Nat → Nat → Int32} {J : Nat → Nat → Int64} {Rr : Nat → Nat → Option Nat} {D : zD} (a1 : Int32) (a2 : Int32) (rr : Int32) (y_v_acts : Int32) (y_v_actKind : (Nat → Int32)) (y_v_actNumber : (Nat → Int32)) (y_v_actShire : (Nat → Int32)) (y_v_actTerm : (Nat → Int32)) (y_v_voidAt : (Nat → Int32)) (E : zE C RX12 cX12_fire 3 (some .int) ({ frames := 2, cells := 0, slots := 0, locals := 45 } : Room)) (hQ : C.Q = zQi C ({ frames := 2, cells := 0, slots := 0, locals := 45 } : Room) rr ((va_up (va_up (va_up (va_up (va_up (va_up I 128 (va_up (I 128) 67 y_v_acts)) 176 y_v_actKind) 177 y_v_actTerm) 178 y_v_actShire) 179 y_v_actNumber) 180 y_v_voidAt), J, Rr, D)) (v_acts : Int32) (v_actKind : (Nat → Int32)) (v_actNumber : (Nat → Int32)) (v_actShire : (Nat → Int32)) (v_actTerm : (Nat → Int32)) (v_voidAt : (Nat → Int32)) (h : pM_fire a1 a2 v_acts v_actKind v_actNumber v_actShire v_actTerm v_voidAt = some (rr, y_v_acts, y_v_actKind, y_v_actNumber, y_v_actShire, y_v_actTerm, y_v_voidAt)) : zB C (0, 0) 0 [(0, .ref (C.X.1 + 128)), (1, .int a1), (2, .int a2)] [] ((va_up (va_up (va_up (va_up (va_up (va_up I 128 (va_up (I 128) 67 v_acts)) 176 v_actKind) 177 v_actTerm) 178 v_actShire) 179 v_actNumber) 180 v_voidAt), J, Rr, D) := by
  refine zb_iload_n E dX12_fire_0 1 rfl rfl ?_
  obtain ⟨rc1, hc_1, h⟩ := bd1_s h
  refine zb_cSi E [.int a1] zy_X12_isTerm zw_1561 (c_X12_isTerm hc_1) (by decide) rfl rfl (by first | decide | simp [Value.category]) dX12_fire_1 (cs2 := (0, 0)) rfl ?_
  refine zb_if_eq E dX12_fire_4 (tgt := 30) rfl (fun hc => ?_) (fun hc => ?_)
  · have h := if_t h hc
    refine zb_iconst E dX12_fire_30 (v := (-1)) rfl ?_
    cases h
    exact zb_iret E hQ rfl (by decide) dX12_fire_31
  · have h := if_f h hc
    refine zb_iload_n E dX12_fire_7 2 rfl rfl ?_
    refine zb_i2l E dX12_fire_8 ?_
    refine zb_lconst E dX12_fire_9 (v := 0) rfl ?_
    refine zb_ldc2 E dX12_fire_10 (v := 120) zw_1713 ?_
    obtain ⟨rc2, hc_13, h⟩ := bd1_s h
    refine zb_cSi E [.long (i2l a2), .long 0, .long 120] zy_X12_isIn zw_1429 (c_X12_isIn hc_13) (by decide) rfl rfl (by first | decide | simp [Value.category]) dX12_fire_13 (cs2 := (0, 0)) rfl ?_
    refine zb_if_eq E dX12_fire_16 (tgt := 30) rfl (fun hc => ?_) (fun hc => ?_)
    · have h := if_t h hc
      refine zb_iconst E dX12_fire_30 (v := (-1)) rfl ?_
      cases h
      exact zb_iret E hQ rfl (by decide) dX12_fire_31
    · have h := if_f h hc
      refine zb_aload_n E dX12_fire_19 0 rfl rfl ?_
      refine zb_iconst E dX12_fire_20 (v := 4) rfl ?_
      refine zb_iconst E dX12_fire_21 (v := 0) rfl ?_
      refine zb_iload_n E dX12_fire_22 1 rfl rfl ?_
      refine zb_iload_n E dX12_fire_23 2 rfl rfl ?_
      obtain ⟨rc3, v_acts_c3, v_actKind_c3, v_actNumber_c3, v_actShire_c3, v_actTerm_c3, v_voidAt_c3, hc_24, h⟩ := bd7_s h
      refine zb_cVi E [.int 4, .int 0, .int a1, .int a2] 128 zy_X12_act zw_1676 (by decide) (zF_128 _ _ _ _) rfl (c_X12_act (va_up (I 128) 67 v_acts) rfl v_acts rfl v_actKind rfl v_actNumber rfl v_actShire rfl v_actTerm rfl v_voidAt rfl hc_24) (by decide) rfl rfl (by first | decide | simp [Value.category]) dX12_fire_24 (cs2 := (0, 0)) rfl ?_
      refine zb_S (S2 := ((va_up (va_up (va_up (va_up (va_up (va_up I 128 (va_up (I 128) 67 v_acts_c3)) 176 v_actKind_c3) 177 v_actTerm_c3) 178 v_actShire_c3) 179 v_actNumber_c3) 180 v_voidAt_c3), J, Rr, D)) (zS_eq ((zcgF ((zcgF ((zcgF ((zcgF ((zcgF ((zcgV zn1).trans (zn6 (by decide : (180 : Nat) ≠ 128) (by decide : (179 : Nat) ≠ 128) (by decide : (178 : Nat) ≠ 128) (by decide : (177 : Nat) ≠ 128) (by decide : (176 : Nat) ≠ 128)))).trans (zn5 (by decide : (180 : Nat) ≠ 176) (by decide : (179 : Nat) ≠ 176) (by decide : (178 : Nat) ≠ 176) (by decide : (177 : Nat) ≠ 176)))).trans (zn4 (by decide : (180 : Nat) ≠ 177) (by decide : (179 : Nat) ≠ 177) (by decide : (178 : Nat) ≠ 177)))).trans (zn3 (by decide : (180 : Nat) ≠ 178) (by decide : (179 : Nat) ≠ 178)))).trans (zn2 (by decide : (180 : Nat) ≠ 179)))).trans zn1) rfl) ?_
      refine zb_goto E dX12_fire_27 (tgt := 31) rfl ?_
      cases h
      exact zb_iret E hQ rfl (by decide) dX12_fire_31
theorem c_X12_fire {l : Launch} {X : zX} {I : Nat → Nat → Int32} {J : Nat → Nat → Int64} {Rr : Nat → Nat → Option Nat} {D : zD} {a1 : Int32} {a2 : Int32} (oI128 : Nat → Int32) (eoI128 : I 128 = oI128) (v_acts : Int32) (e_v_acts : I 128 67 = v_acts) (v_actKind : (Nat → Int32)) (e_v_actKind : I 176 = v_actKind) (v_actNumber : (Nat → Int32)) (e_v_actNumber : I 179 = v_actNumber) (v_actShire : (Nat → Int32)) (e_v_actShire : I 178 = v_actShire) (v_actTerm : (Nat → Int32)) (e_v_actTerm : I 177 = v_actTerm) (v_voidAt : (Nat → Int32)) (e_v_voidAt : I 180 = v_voidAt) {rr : Int32} {y_v_acts : Int32} {y_v_actKind : (Nat → Int32)} {y_v_actNumber : (Nat → Int32)} {y_v_actShire : (Nat → Int32)} {y_v_actTerm : (Nat → Int32)} {y_v_voidAt : (Nat → Int32)} (h : pM_fire a1 a2 v_acts v_actKind v_actNumber v_actShire v_actTerm v_voidAt = some (rr, y_v_acts, y_v_actKind, y_v_actNumber, y_v_actShire, y_v_actTerm, y_v_voidAt)) : zMi l yX12_fire cX12_fire 3 (some .int) ({ frames := 2, cells := 0, slots := 0, locals := 45 } : Room) X [.ref (X.1 + 128), .int a1, .int a2] (I, J, Rr, D) rr ((va_up (va_up (va_up (va_up (va_up (va_up I 128 (va_up oI128 67 y_v_acts)) 176 y_v_actKind) 177 y_v_actTerm) 178 y_v_actShire) 179 y_v_actNumber) 180 y_v_voidAt), J, Rr, D) := by
  subst eoI128
  refine zMi.of (by decide) (Nat.le_of_ble_eq_true rfl) (fun C E hl hX hQ => ?_)
  subst hl
  subst hX
  have eI0 : (va_up (va_up (va_up (va_up (va_up (va_up I 128 (va_up (I 128) 67 v_acts)) 176 v_actKind) 177 v_actTerm) 178 v_actShire) 179 v_actNumber) 180 v_voidAt) = I := by rw [zup_idE e_v_acts, zup_id, zup_idE e_v_actKind, zup_idE e_v_actTerm, zup_idE e_v_actShire, zup_idE e_v_actNumber, zup_idE e_v_voidAt]
  have eJ0 : J = J := rfl
  refine zb_S (S2 := ((va_up (va_up (va_up (va_up (va_up (va_up I 128 (va_up (I 128) 67 v_acts)) 176 v_actKind) 177 v_actTerm) 178 v_actShire) 179 v_actNumber) 180 v_voidAt), J, Rr, D)) (zS_eq eI0.symm eJ0.symm) ?_
  exact c_X12_fire_0 a1 a2 rr y_v_acts y_v_actKind y_v_actNumber y_v_actShire y_v_actTerm y_v_voidAt E hQ v_acts v_actKind v_actNumber v_actShire v_actTerm v_voidAt h
-- ChequeredClothModel.annul
abbrev R_pM_annul : Type := Int32 × Int32 × (Nat → Int32) × (Nat → Int32) × (Nat → Int32) × (Nat → Int32) × (Nat → Int32)
def pM_annul (a1 : Int32) (v_acts : Int32) (v_actKind : (Nat → Int32)) (v_actNumber : (Nat → Int32)) (v_actShire : (Nat → Int32)) (v_actTerm : (Nat → Int32)) (v_voidAt : (Nat → Int32)) : Option R_pM_annul :=
  bd1 (pM_isIn (i2l a1) 1 (i2l v_acts)) fun rc1 =>
  if rc1 = 0 then
    some ((-1), v_acts, v_actKind, v_actNumber, v_actShire, v_actTerm, v_voidAt)
  else
    gd (ib a1 201) <|
    if (v_voidAt (ix a1)) = 0 then
      if (v_actKind (ix a1)) = 5 then
        some ((-1), v_acts, v_actKind, v_actNumber, v_actShire, v_actTerm, v_voidAt)
      else
        if v_acts = 200 then
          some ((-1), v_acts, v_actKind, v_actNumber, v_actShire, v_actTerm, v_voidAt)
        else
          bd7 (pM_act 5 0 0 a1 v_acts v_actKind v_actNumber v_actShire v_actTerm (upd v_voidAt (ix a1) (v_acts + 1))) fun rc3 v_acts_c3 v_actKind_c3 v_actNumber_c3 v_actShire_c3 v_actTerm_c3 v_voidAt_c3 =>
          some (rc3, v_acts_c3, v_actKind_c3, v_actNumber_c3, v_actShire_c3, v_actTerm_c3, v_voidAt_c3)
    else
      some ((-1), v_acts, v_actKind, v_actNumber, v_actShire, v_actTerm, v_voidAt)
theorem dX12_annul_0 : decode cX12_annul 0 = .ok (.iload_n 1, 1) := by decide +kernel
theorem dX12_annul_1 : decode cX12_annul 1 = .ok (.i2l, 1) := by decide +kernel
theorem dX12_annul_2 : decode cX12_annul 2 = .ok (.lconst 1, 1) := by decide +kernel
theorem dX12_annul_3 : decode cX12_annul 3 = .ok (.aload_n 0, 1) := by decide +kernel
theorem dX12_annul_4 : decode cX12_annul 4 = .ok (.getfield 429, 3) := by decide +kernel
theorem dX12_annul_7 : decode cX12_annul 7 = .ok (.i2l, 1) := by decide +kernel
theorem dX12_annul_8 : decode cX12_annul 8 = .ok (.invokestatic 199, 3) := by decide +kernel
theorem dX12_annul_11 : decode cX12_annul 11 = .ok (.ifCond .eq 32, 3) := by decide +kernel
theorem dX12_annul_14 : decode cX12_annul 14 = .ok (.aload_n 0, 1) := by decide +kernel
theorem dX12_annul_15 : decode cX12_annul 15 = .ok (.getfield 181, 3) := by decide +kernel
theorem dX12_annul_18 : decode cX12_annul 18 = .ok (.iload_n 1, 1) := by decide +kernel
theorem dX12_annul_19 : decode cX12_annul 19 = .ok (.iaload, 1) := by decide +kernel
theorem dX12_annul_20 : decode cX12_annul 20 = .ok (.ifCond .ne 23, 3) := by decide +kernel
theorem dX12_annul_23 : decode cX12_annul 23 = .ok (.aload_n 0, 1) := by decide +kernel
theorem dX12_annul_24 : decode cX12_annul 24 = .ok (.getfield 169, 3) := by decide +kernel
theorem dX12_annul_27 : decode cX12_annul 27 = .ok (.iload_n 1, 1) := by decide +kernel
theorem dX12_annul_28 : decode cX12_annul 28 = .ok (.iaload, 1) := by decide +kernel
theorem dX12_annul_29 : decode cX12_annul 29 = .ok (.iconst 5, 1) := by decide +kernel
theorem dX12_annul_30 : decode cX12_annul 30 = .ok (.if_icmp .eq 13, 3) := by decide +kernel
theorem dX12_annul_33 : decode cX12_annul 33 = .ok (.aload_n 0, 1) := by decide +kernel
theorem dX12_annul_34 : decode cX12_annul 34 = .ok (.getfield 429, 3) := by decide +kernel
theorem dX12_annul_37 : decode cX12_annul 37 = .ok (.sipush 200, 3) := by decide +kernel
theorem dX12_annul_40 : decode cX12_annul 40 = .ok (.if_icmp .ne 5, 3) := by decide +kernel
theorem dX12_annul_43 : decode cX12_annul 43 = .ok (.iconst (-1), 1) := by decide +kernel
theorem dX12_annul_44 : decode cX12_annul 44 = .ok (.ireturn, 1) := by decide +kernel
theorem dX12_annul_45 : decode cX12_annul 45 = .ok (.aload_n 0, 1) := by decide +kernel
theorem dX12_annul_46 : decode cX12_annul 46 = .ok (.getfield 181, 3) := by decide +kernel
theorem dX12_annul_49 : decode cX12_annul 49 = .ok (.iload_n 1, 1) := by decide +kernel
theorem dX12_annul_50 : decode cX12_annul 50 = .ok (.aload_n 0, 1) := by decide +kernel
theorem dX12_annul_51 : decode cX12_annul 51 = .ok (.getfield 429, 3) := by decide +kernel
theorem dX12_annul_54 : decode cX12_annul 54 = .ok (.iconst 1, 1) := by decide +kernel
theorem dX12_annul_55 : decode cX12_annul 55 = .ok (.iadd, 1) := by decide +kernel
theorem dX12_annul_56 : decode cX12_annul 56 = .ok (.iastore, 1) := by decide +kernel
theorem dX12_annul_57 : decode cX12_annul 57 = .ok (.aload_n 0, 1) := by decide +kernel
theorem dX12_annul_58 : decode cX12_annul 58 = .ok (.iconst 5, 1) := by decide +kernel
theorem dX12_annul_59 : decode cX12_annul 59 = .ok (.iconst 0, 1) := by decide +kernel
theorem dX12_annul_60 : decode cX12_annul 60 = .ok (.iconst 0, 1) := by decide +kernel
theorem dX12_annul_61 : decode cX12_annul 61 = .ok (.iload_n 1, 1) := by decide +kernel
theorem dX12_annul_62 : decode cX12_annul 62 = .ok (.invokevirtual 438, 3) := by decide +kernel
theorem dX12_annul_65 : decode cX12_annul 65 = .ok (.ireturn, 1) := by decide +kernel
theorem zy_X12_annul : zYv yX12_annul cX12_annul 2 (some .int) 1 := ⟨zw_1715, zw_1716, zw_12, zw_1717, by decide, by decide, by decide⟩
theorem c_X12_annul_0 {C : zC} {I : Nat → Nat → Int32} {J : Nat → Nat → Int64} {Rr : Nat → Nat → Option Nat} {D : zD} (a1 : Int32) (rr : Int32) (y_v_acts : Int32) (y_v_actKind : (Nat → Int32)) (y_v_actNumber : (Nat → Int32)) (y_v_actShire : (Nat → Int32)) (y_v_actTerm : (Nat → Int32)) (y_v_voidAt : (Nat → Int32)) (E : zE C RX12 cX12_annul 2 (some .int) ({ frames := 1, cells := 0, slots := 0, locals := 25 } : Room)) (hQ : C.Q = zQi C ({ frames := 1, cells := 0, slots := 0, locals := 25 } : Room) rr ((va_up (va_up (va_up (va_up (va_up (va_up I 128 (va_up (I 128) 67 y_v_acts)) 176 y_v_actKind) 177 y_v_actTerm) 178 y_v_actShire) 179 y_v_actNumber) 180 y_v_voidAt), J, Rr, D)) (v_acts : Int32) (v_actKind : (Nat → Int32)) (v_actNumber : (Nat → Int32)) (v_actShire : (Nat → Int32)) (v_actTerm : (Nat → Int32)) (v_voidAt : (Nat → Int32)) (h : pM_annul a1 v_acts v_actKind v_actNumber v_actShire v_actTerm v_voidAt = some (rr, y_v_acts, y_v_actKind, y_v_actNumber, y_v_actShire, y_v_actTerm, y_v_voidAt)) : zB C (0, 0) 0 [(0, .ref (C.X.1 + 128)), (1, .int a1)] [] ((va_up (va_up (va_up (va_up (va_up (va_up I 128 (va_up (I 128) 67 v_acts)) 176 v_actKind) 177 v_actTerm) 178 v_actShire) 179 v_actNumber) 180 v_voidAt), J, Rr, D) := by
  refine zb_iload_n E dX12_annul_0 1 rfl rfl ?_
  refine zb_i2l E dX12_annul_1 ?_
  refine zb_lconst E dX12_annul_2 (v := 1) rfl ?_
  refine zb_aload_n E dX12_annul_3 0 rfl rfl ?_
  refine zb_get E 128 (by decide) (zF_128 C.X) rfl zin12 67 (by decide) zw_1235 (v := .int v_acts) rfl dX12_annul_4 ?_
  refine zb_i2l E dX12_annul_7 ?_
  obtain ⟨rc1, hc_8, h⟩ := bd1_s h
  refine zb_cSi E [.long (i2l a1), .long 1, .long (i2l v_acts)] zy_X12_isIn zw_1429 (c_X12_isIn hc_8) (by decide) rfl rfl (by first | decide | simp [Value.category]) dX12_annul_8 (cs2 := (0, 0)) rfl ?_
  refine zb_if_eq E dX12_annul_11 (tgt := 43) rfl (fun hc => ?_) (fun hc => ?_)
  · have h := if_t h hc
    refine zb_iconst E dX12_annul_43 (v := (-1)) rfl ?_
    cases h
    exact zb_iret E hQ rfl (by decide) dX12_annul_44
  · have h := if_f h hc
    refine zb_aload_n E dX12_annul_14 0 rfl rfl ?_
    refine zb_get E 128 (by decide) (zF_128 C.X) rfl zin12 72 (by decide) zw_1240 (v := .ref (C.X.1 + 180)) rfl dX12_annul_15 ?_
    refine zb_iload_n E dX12_annul_18 1 rfl rfl ?_
    obtain ⟨g2, h⟩ := gd_s h
    refine zb_iald E 180 (by decide) zF_180 (f := v_voidAt) rfl (ib_in g2) dX12_annul_19 ?_
    refine zb_if_ne E dX12_annul_20 (tgt := 43) rfl (fun hc => ?_) (fun hc => ?_)
    · have h := if_f h hc
      refine zb_iconst E dX12_annul_43 (v := (-1)) rfl ?_
      cases h
      exact zb_iret E hQ rfl (by decide) dX12_annul_44
    · have h := if_t h hc
      refine zb_aload_n E dX12_annul_23 0 rfl rfl ?_
      refine zb_get E 128 (by decide) (zF_128 C.X) rfl zin12 68 (by decide) zw_1236 (v := .ref (C.X.1 + 176)) rfl dX12_annul_24 ?_
      refine zb_iload_n E dX12_annul_27 1 rfl rfl ?_
      refine zb_iald E 176 (by decide) zF_176 (f := v_actKind) rfl (ib_in g2) dX12_annul_28 ?_
      refine zb_iconst E dX12_annul_29 (v := 5) rfl ?_
      refine zb_icmp_eq E dX12_annul_30 (tgt := 43) rfl (fun hc => ?_) (fun hc => ?_)
      · have h := if_t h hc
        refine zb_iconst E dX12_annul_43 (v := (-1)) rfl ?_
        cases h
        exact zb_iret E hQ rfl (by decide) dX12_annul_44
      · have h := if_f h hc
        refine zb_aload_n E dX12_annul_33 0 rfl rfl ?_
        refine zb_get E 128 (by decide) (zF_128 C.X) rfl zin12 67 (by decide) zw_1235 (v := .int v_acts) rfl dX12_annul_34 ?_
        refine zb_sipush E dX12_annul_37 (v := 200) rfl ?_
        refine zb_icmp_ne E dX12_annul_40 (tgt := 45) rfl (fun hc => ?_) (fun hc => ?_)
        · have h := if_f h hc
          refine zb_aload_n E dX12_annul_45 0 rfl rfl ?_
          refine zb_get E 128 (by decide) (zF_128 C.X) rfl zin12 72 (by decide) zw_1240 (v := .ref (C.X.1 + 180)) rfl dX12_annul_46 ?_
          refine zb_iload_n E dX12_annul_49 1 rfl rfl ?_
          refine zb_aload_n E dX12_annul_50 0 rfl rfl ?_
          refine zb_get E 128 (by decide) (zF_128 C.X) rfl zin12 67 (by decide) zw_1235 (v := .int v_acts) rfl dX12_annul_51 ?_
          refine zb_iconst E dX12_annul_54 (v := 1) rfl ?_
          refine zb_iadd E dX12_annul_55 ?_
          refine zb_iast E 180 (by decide) zF_180 (f := v_voidAt) rfl (ib_in g2) dX12_annul_56 (I2 := (va_up (va_up (va_up (va_up (va_up (va_up I 128 (va_up (I 128) 67 v_acts)) 176 v_actKind) 177 v_actTerm) 178 v_actShire) 179 v_actNumber) 180 (upd v_voidAt (ix a1) (v_acts + 1)))) zn1 ?_
          refine zb_aload_n E dX12_annul_57 0 rfl rfl ?_
          refine zb_iconst E dX12_annul_58 (v := 5) rfl ?_
          refine zb_iconst E dX12_annul_59 (v := 0) rfl ?_
          refine zb_iconst E dX12_annul_60 (v := 0) rfl ?_
          refine zb_iload_n E dX12_annul_61 1 rfl rfl ?_
          obtain ⟨rc3, v_acts_c3, v_actKind_c3, v_actNumber_c3, v_actShire_c3, v_actTerm_c3, v_voidAt_c3, hc_62, h⟩ := bd7_s h
          refine zb_cVi E [.int 5, .int 0, .int 0, .int a1] 128 zy_X12_act zw_1676 (by decide) (zF_128 _ _ _ _) rfl (c_X12_act (va_up (I 128) 67 v_acts) rfl v_acts rfl v_actKind rfl v_actNumber rfl v_actShire rfl v_actTerm rfl (upd v_voidAt (ix a1) (v_acts + 1)) rfl hc_62) (by decide) rfl rfl (by first | decide | simp [Value.category]) dX12_annul_62 (cs2 := (0, 0)) rfl ?_
          refine zb_S (S2 := ((va_up (va_up (va_up (va_up (va_up (va_up I 128 (va_up (I 128) 67 v_acts_c3)) 176 v_actKind_c3) 177 v_actTerm_c3) 178 v_actShire_c3) 179 v_actNumber_c3) 180 v_voidAt_c3), J, Rr, D)) (zS_eq ((zcgF ((zcgF ((zcgF ((zcgF ((zcgF ((zcgV zn1).trans (zn6 (by decide : (180 : Nat) ≠ 128) (by decide : (179 : Nat) ≠ 128) (by decide : (178 : Nat) ≠ 128) (by decide : (177 : Nat) ≠ 128) (by decide : (176 : Nat) ≠ 128)))).trans (zn5 (by decide : (180 : Nat) ≠ 176) (by decide : (179 : Nat) ≠ 176) (by decide : (178 : Nat) ≠ 176) (by decide : (177 : Nat) ≠ 176)))).trans (zn4 (by decide : (180 : Nat) ≠ 177) (by decide : (179 : Nat) ≠ 177) (by decide : (178 : Nat) ≠ 177)))).trans (zn3 (by decide : (180 : Nat) ≠ 178) (by decide : (179 : Nat) ≠ 178)))).trans (zn2 (by decide : (180 : Nat) ≠ 179)))).trans zn1) rfl) ?_
          cases h
          exact zb_iret E hQ rfl (by decide) dX12_annul_65
        · have h := if_t h hc
          refine zb_iconst E dX12_annul_43 (v := (-1)) rfl ?_
          cases h
          exact zb_iret E hQ rfl (by decide) dX12_annul_44
theorem c_X12_annul {l : Launch} {X : zX} {I : Nat → Nat → Int32} {J : Nat → Nat → Int64} {Rr : Nat → Nat → Option Nat} {D : zD} {a1 : Int32} (oI128 : Nat → Int32) (eoI128 : I 128 = oI128) (v_acts : Int32) (e_v_acts : I 128 67 = v_acts) (v_actKind : (Nat → Int32)) (e_v_actKind : I 176 = v_actKind) (v_actNumber : (Nat → Int32)) (e_v_actNumber : I 179 = v_actNumber) (v_actShire : (Nat → Int32)) (e_v_actShire : I 178 = v_actShire) (v_actTerm : (Nat → Int32)) (e_v_actTerm : I 177 = v_actTerm) (v_voidAt : (Nat → Int32)) (e_v_voidAt : I 180 = v_voidAt) {rr : Int32} {y_v_acts : Int32} {y_v_actKind : (Nat → Int32)} {y_v_actNumber : (Nat → Int32)} {y_v_actShire : (Nat → Int32)} {y_v_actTerm : (Nat → Int32)} {y_v_voidAt : (Nat → Int32)} (h : pM_annul a1 v_acts v_actKind v_actNumber v_actShire v_actTerm v_voidAt = some (rr, y_v_acts, y_v_actKind, y_v_actNumber, y_v_actShire, y_v_actTerm, y_v_voidAt)) : zMi l yX12_annul cX12_annul 2 (some .int) ({ frames := 1, cells := 0, slots := 0, locals := 25 } : Room) X [.ref (X.1 + 128), .int a1] (I, J, Rr, D) rr ((va_up (va_up (va_up (va_up (va_up (va_up I 128 (va_up oI128 67 y_v_acts)) 176 y_v_actKind) 177 y_v_actTerm) 178 y_v_actShire) 179 y_v_actNumber) 180 y_v_voidAt), J, Rr, D) := by
  subst eoI128
  refine zMi.of (by decide) (Nat.le_of_ble_eq_true rfl) (fun C E hl hX hQ => ?_)
  subst hl
  subst hX
  have eI0 : (va_up (va_up (va_up (va_up (va_up (va_up I 128 (va_up (I 128) 67 v_acts)) 176 v_actKind) 177 v_actTerm) 178 v_actShire) 179 v_actNumber) 180 v_voidAt) = I := by rw [zup_idE e_v_acts, zup_id, zup_idE e_v_actKind, zup_idE e_v_actTerm, zup_idE e_v_actShire, zup_idE e_v_actNumber, zup_idE e_v_voidAt]
  have eJ0 : J = J := rfl
  refine zb_S (S2 := ((va_up (va_up (va_up (va_up (va_up (va_up I 128 (va_up (I 128) 67 v_acts)) 176 v_actKind) 177 v_actTerm) 178 v_actShire) 179 v_actNumber) 180 v_voidAt), J, Rr, D)) (zS_eq eI0.symm eJ0.symm) ?_
  exact c_X12_annul_0 a1 rr y_v_acts y_v_actKind y_v_actNumber y_v_actShire y_v_actTerm y_v_voidAt E hQ v_acts v_actKind v_actNumber v_actShire v_actTerm v_voidAt h
-- ChequeredClothModel.as
abbrev R_pM_as : Type := Int32 × Int32
def pM_as (a1 : Int32) (v_acts : Int32) (v_as : Int32) : Option R_pM_as :=
  bd1 (pM_isIn (i2l a1) (-1) (i2l v_acts)) fun rc1 =>
  if rc1 = 0 then
    some (0, v_as)
  else
    some (1, a1)
theorem dX12_as_0 : decode cX12_as 0 = .ok (.iload_n 1, 1) := by decide +kernel
theorem dX12_as_1 : decode cX12_as 1 = .ok (.i2l, 1) := by decide +kernel
theorem dX12_as_2 : decode cX12_as 2 = .ok (.ldc2_w 458, 3) := by decide +kernel
theorem dX12_as_5 : decode cX12_as 5 = .ok (.aload_n 0, 1) := by decide +kernel
theorem dX12_as_6 : decode cX12_as 6 = .ok (.getfield 429, 3) := by decide +kernel
theorem dX12_as_9 : decode cX12_as 9 = .ok (.i2l, 1) := by decide +kernel
theorem dX12_as_10 : decode cX12_as 10 = .ok (.invokestatic 199, 3) := by decide +kernel
theorem dX12_as_13 : decode cX12_as 13 = .ok (.ifCond .ne 5, 3) := by decide +kernel
theorem dX12_as_16 : decode cX12_as 16 = .ok (.iconst 0, 1) := by decide +kernel
theorem dX12_as_17 : decode cX12_as 17 = .ok (.ireturn, 1) := by decide +kernel
theorem dX12_as_18 : decode cX12_as 18 = .ok (.aload_n 0, 1) := by decide +kernel
theorem dX12_as_19 : decode cX12_as 19 = .ok (.iload_n 1, 1) := by decide +kernel
theorem dX12_as_20 : decode cX12_as 20 = .ok (.putfield 184, 3) := by decide +kernel
theorem dX12_as_23 : decode cX12_as 23 = .ok (.iconst 1, 1) := by decide +kernel
theorem dX12_as_24 : decode cX12_as 24 = .ok (.ireturn, 1) := by decide +kernel
theorem zy_X12_as : zYv yX12_as cX12_as 2 (some .boolean) 1 := ⟨zw_1719, zw_1720, zw_12, zw_1721, by decide, by decide, by decide⟩
theorem c_X12_as_0 {C : zC} {I : Nat → Nat → Int32} {J : Nat → Nat → Int64} {Rr : Nat → Nat → Option Nat} {D : zD} (a1 : Int32) (v_acts : Int32) (e_v_acts : I 128 67 = v_acts) (rr : Int32) (y_v_as : Int32) (E : zE C RX12 cX12_as 2 (some .boolean) ({ frames := 1, cells := 0, slots := 0, locals := 25 } : Room)) (hQ : C.Q = zQi C ({ frames := 1, cells := 0, slots := 0, locals := 25 } : Room) rr ((va_up I 128 (va_up (I 128) 73 y_v_as)), J, Rr, D)) (v_as : Int32) (h : pM_as a1 v_acts v_as = some (rr, y_v_as)) : zB C (0, 0) 0 [(0, .ref (C.X.1 + 128)), (1, .int a1)] [] ((va_up I 128 (va_up (I 128) 73 v_as)), J, Rr, D) := by
  refine zb_iload_n E dX12_as_0 1 rfl rfl ?_
  refine zb_i2l E dX12_as_1 ?_
  refine zb_ldc2 E dX12_as_2 (v := (-1)) zw_1722 ?_
  refine zb_aload_n E dX12_as_5 0 rfl rfl ?_
  refine zb_get E 128 (by decide) (zF_128 C.X) rfl zin12 67 (by decide) zw_1235 (v := .int v_acts) (by exact congrArg (fun z => some (Value.int z)) e_v_acts) dX12_as_6 ?_
  refine zb_i2l E dX12_as_9 ?_
  obtain ⟨rc1, hc_10, h⟩ := bd1_s h
  refine zb_cSi E [.long (i2l a1), .long (-1), .long (i2l v_acts)] zy_X12_isIn zw_1429 (c_X12_isIn hc_10) (by decide) rfl rfl (by first | decide | simp [Value.category]) dX12_as_10 (cs2 := (0, 0)) rfl ?_
  refine zb_if_ne E dX12_as_13 (tgt := 18) rfl (fun hc => ?_) (fun hc => ?_)
  · have h := if_f h hc
    refine zb_aload_n E dX12_as_18 0 rfl rfl ?_
    refine zb_iload_n E dX12_as_19 1 rfl rfl ?_
    refine zb_put E 128 (by decide) (zF_128 C.X) rfl zin12 73 (by decide) zw_1241 tyX12 tyX12_ok nmX12 rfl rfl rfl (I2 := (va_up I 128 (va_up (I 128) 73 a1))) (J2 := J) ((zset12_73 C.X (va_up (I 128) 73 v_as) (J 128) a1).trans (congrArg (fun g => zf12 C.X g (J 128)) zn1)) (by rw [zflen12]; decide) (fun j hj => ⟨(zup_n hj).trans (zup_n hj).symm, rfl⟩) dX12_as_20 ?_
    refine zb_iconst E dX12_as_23 (v := 1) rfl ?_
    cases h
    exact zb_zret E hQ (ty := .boolean) rfl rfl (by decide) dX12_as_24
  · have h := if_t h hc
    refine zb_iconst E dX12_as_16 (v := 0) rfl ?_
    cases h
    exact zb_zret E hQ (ty := .boolean) rfl rfl (by decide) dX12_as_17
theorem c_X12_as {l : Launch} {X : zX} {I : Nat → Nat → Int32} {J : Nat → Nat → Int64} {Rr : Nat → Nat → Option Nat} {D : zD} {a1 : Int32} (oI128 : Nat → Int32) (eoI128 : I 128 = oI128) (v_acts : Int32) (e_v_acts : I 128 67 = v_acts) (v_as : Int32) (e_v_as : I 128 73 = v_as) {rr : Int32} {y_v_as : Int32} (h : pM_as a1 v_acts v_as = some (rr, y_v_as)) : zMi l yX12_as cX12_as 2 (some .boolean) ({ frames := 1, cells := 0, slots := 0, locals := 25 } : Room) X [.ref (X.1 + 128), .int a1] (I, J, Rr, D) rr ((va_up I 128 (va_up oI128 73 y_v_as)), J, Rr, D) := by
  subst eoI128
  refine zMi.of (by decide) (Nat.le_of_ble_eq_true rfl) (fun C E hl hX hQ => ?_)
  subst hl
  subst hX
  have eI0 : (va_up I 128 (va_up (I 128) 73 v_as)) = I := by rw [zup_idE e_v_as, zup_id]
  have eJ0 : J = J := rfl
  refine zb_S (S2 := ((va_up I 128 (va_up (I 128) 73 v_as)), J, Rr, D)) (zS_eq eI0.symm eJ0.symm) ?_
  exact c_X12_as_0 a1 v_acts e_v_acts rr y_v_as E hQ v_as h
-- ChequeredClothModel.asNow
abbrev R_pM_asNow : Type := Int32
def pM_asNow (v_acts : Int32) (v_as : Int32) : Option R_pM_asNow :=
  if v_as = (-1) then
    some v_acts
  else
    some v_as
theorem dX12_asNow_0 : decode cX12_asNow 0 = .ok (.aload_n 0, 1) := by decide +kernel
theorem dX12_asNow_1 : decode cX12_asNow 1 = .ok (.getfield 184, 3) := by decide +kernel
theorem dX12_asNow_4 : decode cX12_asNow 4 = .ok (.iconst (-1), 1) := by decide +kernel
theorem dX12_asNow_5 : decode cX12_asNow 5 = .ok (.if_icmp .ne 10, 3) := by decide +kernel
theorem dX12_asNow_8 : decode cX12_asNow 8 = .ok (.aload_n 0, 1) := by decide +kernel
theorem dX12_asNow_9 : decode cX12_asNow 9 = .ok (.getfield 429, 3) := by decide +kernel
theorem dX12_asNow_12 : decode cX12_asNow 12 = .ok (.goto 7, 3) := by decide +kernel
theorem dX12_asNow_15 : decode cX12_asNow 15 = .ok (.aload_n 0, 1) := by decide +kernel
theorem dX12_asNow_16 : decode cX12_asNow 16 = .ok (.getfield 184, 3) := by decide +kernel
theorem dX12_asNow_19 : decode cX12_asNow 19 = .ok (.ireturn, 1) := by decide +kernel
theorem zy_X12_asNow : zYv yX12_asNow cX12_asNow 1 (some .int) 0 := ⟨zw_1729, zws_85, zw_12, zw_1730, by decide, by decide, by decide⟩
theorem c_X12_asNow_0 {C : zC} {I : Nat → Nat → Int32} {J : Nat → Nat → Int64} {Rr : Nat → Nat → Option Nat} {D : zD} (v_acts : Int32) (e_v_acts : I 128 67 = v_acts) (v_as : Int32) (e_v_as : I 128 73 = v_as) (rr : Int32) (E : zE C RX12 cX12_asNow 1 (some .int) ({ frames := 0, cells := 0, slots := 0, locals := 0 } : Room)) (hQ : C.Q = zQi C ({ frames := 0, cells := 0, slots := 0, locals := 0 } : Room) rr (I, J, Rr, D)) (h : pM_asNow v_acts v_as = some rr) : zB C (0, 0) 0 [(0, .ref (C.X.1 + 128))] [] (I, J, Rr, D) := by
  refine zb_aload_n E dX12_asNow_0 0 rfl rfl ?_
  refine zb_get E 128 (by decide) (zF_128 C.X) rfl zin12 73 (by decide) zw_1241 (v := .int v_as) (by exact congrArg (fun z => some (Value.int z)) e_v_as) dX12_asNow_1 ?_
  refine zb_iconst E dX12_asNow_4 (v := (-1)) rfl ?_
  refine zb_icmp_ne E dX12_asNow_5 (tgt := 15) rfl (fun hc => ?_) (fun hc => ?_)
  · have h := if_f h hc
    refine zb_aload_n E dX12_asNow_15 0 rfl rfl ?_
    refine zb_get E 128 (by decide) (zF_128 C.X) rfl zin12 73 (by decide) zw_1241 (v := .int v_as) (by exact congrArg (fun z => some (Value.int z)) e_v_as) dX12_asNow_16 ?_
    cases h
    exact zb_iret E hQ rfl (by decide) dX12_asNow_19
  · have h := if_t h hc
    refine zb_aload_n E dX12_asNow_8 0 rfl rfl ?_
    refine zb_get E 128 (by decide) (zF_128 C.X) rfl zin12 67 (by decide) zw_1235 (v := .int v_acts) (by exact congrArg (fun z => some (Value.int z)) e_v_acts) dX12_asNow_9 ?_
    refine zb_goto E dX12_asNow_12 (tgt := 19) rfl ?_
    cases h
    exact zb_iret E hQ rfl (by decide) dX12_asNow_19
theorem c_X12_asNow {l : Launch} {X : zX} {I : Nat → Nat → Int32} {J : Nat → Nat → Int64} {Rr : Nat → Nat → Option Nat} {D : zD} (v_acts : Int32) (e_v_acts : I 128 67 = v_acts) (v_as : Int32) (e_v_as : I 128 73 = v_as) {rr : Int32} (h : pM_asNow v_acts v_as = some rr) : zMi l yX12_asNow cX12_asNow 1 (some .int) ({ frames := 0, cells := 0, slots := 0, locals := 0 } : Room) X [.ref (X.1 + 128)] (I, J, Rr, D) rr (I, J, Rr, D) := by
  refine zMi.of (by decide) (Nat.le_of_ble_eq_true rfl) (fun C E hl hX hQ => ?_)
  subst hl
  subst hX
  have eI0 : I = I := rfl
  have eJ0 : J = J := rfl
  refine zb_S (S2 := (I, J, Rr, D)) (zS_eq eI0.symm eJ0.symm) ?_
  exact c_X12_asNow_0 v_acts e_v_acts v_as e_v_as rr E hQ h
-- ChequeredClothModel.isKnown
abbrev R_pM_isKnown : Type := Int32
def pM_isKnown_b30 (a1 : Int32) (v_knownAt : Int32) (v_without : Int32) (v_voidAt : (Nat → Int32)) : Option R_pM_isKnown :=
  if a1 = v_without then
    some 0
  else
    some 1
def pM_isKnown (a1 : Int32) (v_knownAt : Int32) (v_without : Int32) (v_voidAt : (Nat → Int32)) : Option R_pM_isKnown :=
  if v_knownAt < a1 then
    some 0
  else
    gd (ib a1 201) <|
    if (v_voidAt (ix a1)) = 0 then
      pM_isKnown_b30 a1 v_knownAt v_without v_voidAt
    else
      if (v_voidAt (ix a1)) ≤ v_knownAt then
        some 0
      else
        pM_isKnown_b30 a1 v_knownAt v_without v_voidAt
theorem dX12_isKnown_0 : decode cX12_isKnown 0 = .ok (.iload_n 1, 1) := by decide +kernel
theorem dX12_isKnown_1 : decode cX12_isKnown 1 = .ok (.aload_n 0, 1) := by decide +kernel
theorem dX12_isKnown_2 : decode cX12_isKnown 2 = .ok (.getfield 460, 3) := by decide +kernel
theorem dX12_isKnown_5 : decode cX12_isKnown 5 = .ok (.if_icmp .gt 37, 3) := by decide +kernel
theorem dX12_isKnown_8 : decode cX12_isKnown 8 = .ok (.aload_n 0, 1) := by decide +kernel
theorem dX12_isKnown_9 : decode cX12_isKnown 9 = .ok (.getfield 181, 3) := by decide +kernel
theorem dX12_isKnown_12 : decode cX12_isKnown 12 = .ok (.iload_n 1, 1) := by decide +kernel
theorem dX12_isKnown_13 : decode cX12_isKnown 13 = .ok (.iaload, 1) := by decide +kernel
theorem dX12_isKnown_14 : decode cX12_isKnown 14 = .ok (.ifCond .eq 16, 3) := by decide +kernel
theorem dX12_isKnown_17 : decode cX12_isKnown 17 = .ok (.aload_n 0, 1) := by decide +kernel
theorem dX12_isKnown_18 : decode cX12_isKnown 18 = .ok (.getfield 181, 3) := by decide +kernel
theorem dX12_isKnown_21 : decode cX12_isKnown 21 = .ok (.iload_n 1, 1) := by decide +kernel
theorem dX12_isKnown_22 : decode cX12_isKnown 22 = .ok (.iaload, 1) := by decide +kernel
theorem dX12_isKnown_23 : decode cX12_isKnown 23 = .ok (.aload_n 0, 1) := by decide +kernel
theorem dX12_isKnown_24 : decode cX12_isKnown 24 = .ok (.getfield 460, 3) := by decide +kernel
theorem dX12_isKnown_27 : decode cX12_isKnown 27 = .ok (.if_icmp .le 15, 3) := by decide +kernel
theorem dX12_isKnown_30 : decode cX12_isKnown 30 = .ok (.iload_n 1, 1) := by decide +kernel
theorem dX12_isKnown_31 : decode cX12_isKnown 31 = .ok (.aload_n 0, 1) := by decide +kernel
theorem dX12_isKnown_32 : decode cX12_isKnown 32 = .ok (.getfield 463, 3) := by decide +kernel
theorem dX12_isKnown_35 : decode cX12_isKnown 35 = .ok (.if_icmp .eq 7, 3) := by decide +kernel
theorem dX12_isKnown_38 : decode cX12_isKnown 38 = .ok (.iconst 1, 1) := by decide +kernel
theorem dX12_isKnown_39 : decode cX12_isKnown 39 = .ok (.goto 4, 3) := by decide +kernel
theorem dX12_isKnown_42 : decode cX12_isKnown 42 = .ok (.iconst 0, 1) := by decide +kernel
theorem dX12_isKnown_43 : decode cX12_isKnown 43 = .ok (.ireturn, 1) := by decide +kernel
theorem zy_X12_isKnown : zYv yX12_isKnown cX12_isKnown 2 (some .boolean) 1 := ⟨zw_1741, zws_88, zw_12, zw_1742, by decide, by decide, by decide⟩
theorem c_X12_isKnown_b30 {C : zC} {I : Nat → Nat → Int32} {J : Nat → Nat → Int64} {Rr : Nat → Nat → Option Nat} {D : zD} (a1 : Int32) (v_knownAt : Int32) (e_v_knownAt : I 128 74 = v_knownAt) (v_without : Int32) (e_v_without : I 128 75 = v_without) (v_voidAt : (Nat → Int32)) (e_v_voidAt : I 180 = v_voidAt) (rr : Int32) (E : zE C RX12 cX12_isKnown 2 (some .boolean) ({ frames := 0, cells := 0, slots := 0, locals := 0 } : Room)) (hQ : C.Q = zQi C ({ frames := 0, cells := 0, slots := 0, locals := 0 } : Room) rr (I, J, Rr, D)) (h : pM_isKnown_b30 a1 v_knownAt v_without v_voidAt = some rr) : zB C (0, 0) 30 [(0, .ref (C.X.1 + 128)), (1, .int a1)] [] (I, J, Rr, D) := by
  refine zb_iload_n E dX12_isKnown_30 1 rfl rfl ?_
  refine zb_aload_n E dX12_isKnown_31 0 rfl rfl ?_
  refine zb_get E 128 (by decide) (zF_128 C.X) rfl zin12 75 (by decide) zw_1243 (v := .int v_without) (by exact congrArg (fun z => some (Value.int z)) e_v_without) dX12_isKnown_32 ?_
  refine zb_icmp_eq E dX12_isKnown_35 (tgt := 42) rfl (fun hc => ?_) (fun hc => ?_)
  · have h := if_t h hc
    refine zb_iconst E dX12_isKnown_42 (v := 0) rfl ?_
    cases h
    exact zb_zret E hQ (ty := .boolean) rfl rfl (by decide) dX12_isKnown_43
  · have h := if_f h hc
    refine zb_iconst E dX12_isKnown_38 (v := 1) rfl ?_
    refine zb_goto E dX12_isKnown_39 (tgt := 43) rfl ?_
    cases h
    exact zb_zret E hQ (ty := .boolean) rfl rfl (by decide) dX12_isKnown_43
theorem c_X12_isKnown_0 {C : zC} {I : Nat → Nat → Int32} {J : Nat → Nat → Int64} {Rr : Nat → Nat → Option Nat} {D : zD} (a1 : Int32) (v_knownAt : Int32) (e_v_knownAt : I 128 74 = v_knownAt) (v_without : Int32) (e_v_without : I 128 75 = v_without) (v_voidAt : (Nat → Int32)) (e_v_voidAt : I 180 = v_voidAt) (rr : Int32) (E : zE C RX12 cX12_isKnown 2 (some .boolean) ({ frames := 0, cells := 0, slots := 0, locals := 0 } : Room)) (hQ : C.Q = zQi C ({ frames := 0, cells := 0, slots := 0, locals := 0 } : Room) rr (I, J, Rr, D)) (h : pM_isKnown a1 v_knownAt v_without v_voidAt = some rr) : zB C (0, 0) 0 [(0, .ref (C.X.1 + 128)), (1, .int a1)] [] (I, J, Rr, D) := by
  refine zb_iload_n E dX12_isKnown_0 1 rfl rfl ?_
  refine zb_aload_n E dX12_isKnown_1 0 rfl rfl ?_
  refine zb_get E 128 (by decide) (zF_128 C.X) rfl zin12 74 (by decide) zw_1242 (v := .int v_knownAt) (by exact congrArg (fun z => some (Value.int z)) e_v_knownAt) dX12_isKnown_2 ?_
  refine zb_icmp_gt E dX12_isKnown_5 (tgt := 42) rfl (fun hc => ?_) (fun hc => ?_)
  · have h := if_t h hc
    refine zb_iconst E dX12_isKnown_42 (v := 0) rfl ?_
    cases h
    exact zb_zret E hQ (ty := .boolean) rfl rfl (by decide) dX12_isKnown_43
  · have h := if_f h hc
    refine zb_aload_n E dX12_isKnown_8 0 rfl rfl ?_
    refine zb_get E 128 (by decide) (zF_128 C.X) rfl zin12 72 (by decide) zw_1240 (v := .ref (C.X.1 + 180)) rfl dX12_isKnown_9 ?_
    refine zb_iload_n E dX12_isKnown_12 1 rfl rfl ?_
    obtain ⟨g1, h⟩ := gd_s h
    refine zb_iald E 180 (by decide) zF_180 (f := v_voidAt) (by exact e_v_voidAt) (ib_in g1) dX12_isKnown_13 ?_
    refine zb_if_eq E dX12_isKnown_14 (tgt := 30) rfl (fun hc => ?_) (fun hc => ?_)
    · have h := if_t h hc
      exact c_X12_isKnown_b30 a1 v_knownAt e_v_knownAt v_without e_v_without v_voidAt e_v_voidAt rr E hQ h
    · have h := if_f h hc
      refine zb_aload_n E dX12_isKnown_17 0 rfl rfl ?_
      refine zb_get E 128 (by decide) (zF_128 C.X) rfl zin12 72 (by decide) zw_1240 (v := .ref (C.X.1 + 180)) rfl dX12_isKnown_18 ?_
      refine zb_iload_n E dX12_isKnown_21 1 rfl rfl ?_
      refine zb_iald E 180 (by decide) zF_180 (f := v_voidAt) (by exact e_v_voidAt) (ib_in g1) dX12_isKnown_22 ?_
      refine zb_aload_n E dX12_isKnown_23 0 rfl rfl ?_
      refine zb_get E 128 (by decide) (zF_128 C.X) rfl zin12 74 (by decide) zw_1242 (v := .int v_knownAt) (by exact congrArg (fun z => some (Value.int z)) e_v_knownAt) dX12_isKnown_24 ?_
      refine zb_icmp_le E dX12_isKnown_27 (tgt := 42) rfl (fun hc => ?_) (fun hc => ?_)
      · have h := if_t h hc
        refine zb_iconst E dX12_isKnown_42 (v := 0) rfl ?_
        cases h
        exact zb_zret E hQ (ty := .boolean) rfl rfl (by decide) dX12_isKnown_43
      · have h := if_f h hc
        exact c_X12_isKnown_b30 a1 v_knownAt e_v_knownAt v_without e_v_without v_voidAt e_v_voidAt rr E hQ h
theorem c_X12_isKnown {l : Launch} {X : zX} {I : Nat → Nat → Int32} {J : Nat → Nat → Int64} {Rr : Nat → Nat → Option Nat} {D : zD} {a1 : Int32} (v_knownAt : Int32) (e_v_knownAt : I 128 74 = v_knownAt) (v_without : Int32) (e_v_without : I 128 75 = v_without) (v_voidAt : (Nat → Int32)) (e_v_voidAt : I 180 = v_voidAt) {rr : Int32} (h : pM_isKnown a1 v_knownAt v_without v_voidAt = some rr) : zMi l yX12_isKnown cX12_isKnown 2 (some .boolean) ({ frames := 0, cells := 0, slots := 0, locals := 0 } : Room) X [.ref (X.1 + 128), .int a1] (I, J, Rr, D) rr (I, J, Rr, D) := by
  refine zMi.of (by decide) (Nat.le_of_ble_eq_true rfl) (fun C E hl hX hQ => ?_)
  subst hl
  subst hX
  have eI0 : I = I := rfl
  have eJ0 : J = J := rfl
  refine zb_S (S2 := (I, J, Rr, D)) (zS_eq eI0.symm eJ0.symm) ?_
  exact c_X12_isKnown_0 a1 v_knownAt e_v_knownAt v_without e_v_without v_voidAt e_v_voidAt rr E hQ h
-- ChequeredClothModel.writOf
abbrev R_pM_writOf : Type := Int32
def pM_writOf_b4_F (N : Nat) (a1 : Int32) (v_acts : Int32) (v_knownAt : Int32) (v_without : Int32) (v_actKind : (Nat → Int32)) (v_actTerm : (Nat → Int32)) (v_voidAt : (Nat → Int32)) (self : Int32 → Int32 → Option R_pM_writOf) (x2 : Int32) (x3 : Int32) : Option R_pM_writOf :=
  if v_acts < x3 then
    some x2
  else
    gd (ib x3 201) <|
    if (v_actKind (ix x3)) = 1 then
      bd1 (pM_isKnown x3 v_knownAt v_without v_voidAt) fun rc2 =>
      if rc2 = 0 then
        self x2 (x3 + 1)
      else
        if a1 < (v_actTerm (ix x3)) then
          self x2 (x3 + 1)
        else
          if x2 = 0 then
            self x3 (x3 + 1)
          else
            gd (ib x2 201) <|
            if (v_actTerm (ix x3)) < (v_actTerm (ix x2)) then
              self x2 (x3 + 1)
            else
              self x3 (x3 + 1)
    else
      self x2 (x3 + 1)
def pM_writOf_b4 (N : Nat) (a1 : Int32) (v_acts : Int32) (v_knownAt : Int32) (v_without : Int32) (v_actKind : (Nat → Int32)) (v_actTerm : (Nat → Int32)) (v_voidAt : (Nat → Int32)) : Nat → Int32 → Int32 → Option R_pM_writOf := zlp2 (pM_writOf_b4_F N a1 v_acts v_knownAt v_without v_actKind v_actTerm v_voidAt)
def pM_writOf (N : Nat) (a1 : Int32) (v_acts : Int32) (v_knownAt : Int32) (v_without : Int32) (v_actKind : (Nat → Int32)) (v_actTerm : (Nat → Int32)) (v_voidAt : (Nat → Int32)) : Option R_pM_writOf :=
  pM_writOf_b4 N a1 v_acts v_knownAt v_without v_actKind v_actTerm v_voidAt N 0 1
theorem dX12_writOf_0 : decode cX12_writOf 0 = .ok (.iconst 0, 1) := by decide +kernel
theorem dX12_writOf_1 : decode cX12_writOf 1 = .ok (.istore_n 2, 1) := by decide +kernel
theorem dX12_writOf_2 : decode cX12_writOf 2 = .ok (.iconst 1, 1) := by decide +kernel
theorem dX12_writOf_3 : decode cX12_writOf 3 = .ok (.istore_n 3, 1) := by decide +kernel
theorem dX12_writOf_4 : decode cX12_writOf 4 = .ok (.iload_n 3, 1) := by decide +kernel
theorem dX12_writOf_5 : decode cX12_writOf 5 = .ok (.aload_n 0, 1) := by decide +kernel
theorem dX12_writOf_6 : decode cX12_writOf 6 = .ok (.getfield 429, 3) := by decide +kernel
theorem dX12_writOf_9 : decode cX12_writOf 9 = .ok (.if_icmp .gt 58, 3) := by decide +kernel
theorem dX12_writOf_12 : decode cX12_writOf 12 = .ok (.aload_n 0, 1) := by decide +kernel
theorem dX12_writOf_13 : decode cX12_writOf 13 = .ok (.getfield 169, 3) := by decide +kernel
theorem dX12_writOf_16 : decode cX12_writOf 16 = .ok (.iload_n 3, 1) := by decide +kernel
theorem dX12_writOf_17 : decode cX12_writOf 17 = .ok (.iaload, 1) := by decide +kernel
theorem dX12_writOf_18 : decode cX12_writOf 18 = .ok (.iconst 1, 1) := by decide +kernel
theorem dX12_writOf_19 : decode cX12_writOf 19 = .ok (.if_icmp .ne 42, 3) := by decide +kernel
theorem dX12_writOf_22 : decode cX12_writOf 22 = .ok (.aload_n 0, 1) := by decide +kernel
theorem dX12_writOf_23 : decode cX12_writOf 23 = .ok (.iload_n 3, 1) := by decide +kernel
theorem dX12_writOf_24 : decode cX12_writOf 24 = .ok (.invokevirtual 466, 3) := by decide +kernel
theorem dX12_writOf_27 : decode cX12_writOf 27 = .ok (.ifCond .eq 34, 3) := by decide +kernel
theorem dX12_writOf_30 : decode cX12_writOf 30 = .ok (.aload_n 0, 1) := by decide +kernel
theorem dX12_writOf_31 : decode cX12_writOf 31 = .ok (.getfield 172, 3) := by decide +kernel
theorem dX12_writOf_34 : decode cX12_writOf 34 = .ok (.iload_n 3, 1) := by decide +kernel
theorem dX12_writOf_35 : decode cX12_writOf 35 = .ok (.iaload, 1) := by decide +kernel
theorem dX12_writOf_36 : decode cX12_writOf 36 = .ok (.iload_n 1, 1) := by decide +kernel
theorem dX12_writOf_37 : decode cX12_writOf 37 = .ok (.if_icmp .gt 24, 3) := by decide +kernel
theorem dX12_writOf_40 : decode cX12_writOf 40 = .ok (.iload_n 2, 1) := by decide +kernel
theorem dX12_writOf_41 : decode cX12_writOf 41 = .ok (.ifCond .eq 18, 3) := by decide +kernel
theorem dX12_writOf_44 : decode cX12_writOf 44 = .ok (.aload_n 0, 1) := by decide +kernel
theorem dX12_writOf_45 : decode cX12_writOf 45 = .ok (.getfield 172, 3) := by decide +kernel
theorem dX12_writOf_48 : decode cX12_writOf 48 = .ok (.iload_n 3, 1) := by decide +kernel
theorem dX12_writOf_49 : decode cX12_writOf 49 = .ok (.iaload, 1) := by decide +kernel
theorem dX12_writOf_50 : decode cX12_writOf 50 = .ok (.aload_n 0, 1) := by decide +kernel
theorem dX12_writOf_51 : decode cX12_writOf 51 = .ok (.getfield 172, 3) := by decide +kernel
theorem dX12_writOf_54 : decode cX12_writOf 54 = .ok (.iload_n 2, 1) := by decide +kernel
theorem dX12_writOf_55 : decode cX12_writOf 55 = .ok (.iaload, 1) := by decide +kernel
theorem dX12_writOf_56 : decode cX12_writOf 56 = .ok (.if_icmp .lt 5, 3) := by decide +kernel
theorem dX12_writOf_59 : decode cX12_writOf 59 = .ok (.iload_n 3, 1) := by decide +kernel
theorem dX12_writOf_60 : decode cX12_writOf 60 = .ok (.istore_n 2, 1) := by decide +kernel
theorem dX12_writOf_61 : decode cX12_writOf 61 = .ok (.iinc 3 1, 3) := by decide +kernel
theorem dX12_writOf_64 : decode cX12_writOf 64 = .ok (.goto (-60), 3) := by decide +kernel
theorem dX12_writOf_67 : decode cX12_writOf 67 = .ok (.iload_n 2, 1) := by decide +kernel
theorem dX12_writOf_68 : decode cX12_writOf 68 = .ok (.ireturn, 1) := by decide +kernel
theorem zy_X12_writOf : zYv yX12_writOf cX12_writOf 4 (some .int) 1 := ⟨zw_1737, zws_87, zw_12, zw_1738, by decide, by decide, by decide⟩
theorem c_X12_writOf_b4 {C : zC} {I : Nat → Nat → Int32} {J : Nat → Nat → Int64} {Rr : Nat → Nat → Option Nat} {D : zD} (N : Nat) (a1 : Int32) (v_acts : Int32) (e_v_acts : I 128 67 = v_acts) (v_knownAt : Int32) (e_v_knownAt : I 128 74 = v_knownAt) (v_without : Int32) (e_v_without : I 128 75 = v_without) (v_actKind : (Nat → Int32)) (e_v_actKind : I 176 = v_actKind) (v_actTerm : (Nat → Int32)) (e_v_actTerm : I 177 = v_actTerm) (v_voidAt : (Nat → Int32)) (e_v_voidAt : I 180 = v_voidAt) (rr : Int32) (E : zE C RX12 cX12_writOf 4 (some .int) ({ frames := 1, cells := 0, slots := 0, locals := 21 } : Room)) (hQ : C.Q = zQi C ({ frames := 1, cells := 0, slots := 0, locals := 21 } : Room) rr (I, J, Rr, D))  : ∀ (n9 : Nat) (x2 : Int32) (x3 : Int32), pM_writOf_b4 N a1 v_acts v_knownAt v_without v_actKind v_actTerm v_voidAt n9 x2 x3 = some rr → zB C (0, 0) 4 [(0, .ref (C.X.1 + 128)), (1, .int a1), (2, .int x2), (3, .int x3)] [] (I, J, Rr, D) := by
  refine zlp2_ind (P := fun (x2 : Int32) (x3 : Int32) => zB C (0, 0) 4 [(0, .ref (C.X.1 + 128)), (1, .int a1), (2, .int x2), (3, .int x3)] [] (I, J, Rr, D)) (fun self ih => ?_)
  intro x2 x3 h
  refine zb_iload_n E dX12_writOf_4 3 rfl rfl ?_
  refine zb_aload_n E dX12_writOf_5 0 rfl rfl ?_
  refine zb_get E 128 (by decide) (zF_128 C.X) rfl zin12 67 (by decide) zw_1235 (v := .int v_acts) (by exact congrArg (fun z => some (Value.int z)) e_v_acts) dX12_writOf_6 ?_
  refine zb_icmp_gt E dX12_writOf_9 (tgt := 67) rfl (fun hc => ?_) (fun hc => ?_)
  · have h := if_t h hc
    refine zb_iload_n E dX12_writOf_67 2 rfl rfl ?_
    cases h
    exact zb_iret E hQ rfl (by decide) dX12_writOf_68
  · have h := if_f h hc
    refine zb_aload_n E dX12_writOf_12 0 rfl rfl ?_
    refine zb_get E 128 (by decide) (zF_128 C.X) rfl zin12 68 (by decide) zw_1236 (v := .ref (C.X.1 + 176)) rfl dX12_writOf_13 ?_
    refine zb_iload_n E dX12_writOf_16 3 rfl rfl ?_
    obtain ⟨g1, h⟩ := gd_s h
    refine zb_iald E 176 (by decide) zF_176 (f := v_actKind) (by exact e_v_actKind) (ib_in g1) dX12_writOf_17 ?_
    refine zb_iconst E dX12_writOf_18 (v := 1) rfl ?_
    refine zb_icmp_ne E dX12_writOf_19 (tgt := 61) rfl (fun hc => ?_) (fun hc => ?_)
    · have h := if_f h hc
      refine zb_iinc E dX12_writOf_61 3 rfl (v := (x3 + 1)) rfl (by decide) (lv2 := [(3, .int (x3 + 1)), (0, .ref (C.X.1 + 128)), (1, .int a1), (2, .int x2)]) rfl ?_
      refine zb_goto E dX12_writOf_64 (tgt := 4) rfl ?_
      refine zb_sub [1, 2, 3, 0] rfl ?_
      exact ih x2 (x3 + 1) h
    · have h := if_t h hc
      refine zb_aload_n E dX12_writOf_22 0 rfl rfl ?_
      refine zb_iload_n E dX12_writOf_23 3 rfl rfl ?_
      obtain ⟨rc2, hc_24, h⟩ := bd1_s h
      refine zb_cVi E [.int x3] 128 zy_X12_isKnown zw_1739 (by decide) (zF_128 _ _ _ _) rfl (c_X12_isKnown v_knownAt (by exact e_v_knownAt) v_without (by exact e_v_without) v_voidAt (by exact e_v_voidAt) hc_24) (by decide) rfl rfl (by first | decide | simp [Value.category]) dX12_writOf_24 (cs2 := (0, 0)) rfl ?_
      refine zb_if_eq E dX12_writOf_27 (tgt := 61) rfl (fun hc => ?_) (fun hc => ?_)
      · have h := if_t h hc
        refine zb_iinc E dX12_writOf_61 3 rfl (v := (x3 + 1)) rfl (by decide) (lv2 := [(3, .int (x3 + 1)), (0, .ref (C.X.1 + 128)), (1, .int a1), (2, .int x2)]) rfl ?_
        refine zb_goto E dX12_writOf_64 (tgt := 4) rfl ?_
        refine zb_sub [1, 2, 3, 0] rfl ?_
        exact ih x2 (x3 + 1) h
      · have h := if_f h hc
        refine zb_aload_n E dX12_writOf_30 0 rfl rfl ?_
        refine zb_get E 128 (by decide) (zF_128 C.X) rfl zin12 69 (by decide) zw_1237 (v := .ref (C.X.1 + 177)) rfl dX12_writOf_31 ?_
        refine zb_iload_n E dX12_writOf_34 3 rfl rfl ?_
        refine zb_iald E 177 (by decide) zF_177 (f := v_actTerm) (by exact e_v_actTerm) (ib_in g1) dX12_writOf_35 ?_
        refine zb_iload_n E dX12_writOf_36 1 rfl rfl ?_
        refine zb_icmp_gt E dX12_writOf_37 (tgt := 61) rfl (fun hc => ?_) (fun hc => ?_)
        · have h := if_t h hc
          refine zb_iinc E dX12_writOf_61 3 rfl (v := (x3 + 1)) rfl (by decide) (lv2 := [(3, .int (x3 + 1)), (0, .ref (C.X.1 + 128)), (1, .int a1), (2, .int x2)]) rfl ?_
          refine zb_goto E dX12_writOf_64 (tgt := 4) rfl ?_
          refine zb_sub [1, 2, 3, 0] rfl ?_
          exact ih x2 (x3 + 1) h
        · have h := if_f h hc
          refine zb_iload_n E dX12_writOf_40 2 rfl rfl ?_
          refine zb_if_eq E dX12_writOf_41 (tgt := 59) rfl (fun hc => ?_) (fun hc => ?_)
          · have h := if_t h hc
            refine zb_iload_n E dX12_writOf_59 3 rfl rfl ?_
            refine zb_istore_n E dX12_writOf_60 rfl (by decide) (lv2 := [(2, .int x3), (0, .ref (C.X.1 + 128)), (1, .int a1), (3, .int x3)]) rfl ?_
            refine zb_iinc E dX12_writOf_61 3 rfl (v := (x3 + 1)) rfl (by decide) (lv2 := [(3, .int (x3 + 1)), (2, .int x3), (0, .ref (C.X.1 + 128)), (1, .int a1)]) rfl ?_
            refine zb_goto E dX12_writOf_64 (tgt := 4) rfl ?_
            refine zb_sub [2, 3, 1, 0] rfl ?_
            exact ih x3 (x3 + 1) h
          · have h := if_f h hc
            refine zb_aload_n E dX12_writOf_44 0 rfl rfl ?_
            refine zb_get E 128 (by decide) (zF_128 C.X) rfl zin12 69 (by decide) zw_1237 (v := .ref (C.X.1 + 177)) rfl dX12_writOf_45 ?_
            refine zb_iload_n E dX12_writOf_48 3 rfl rfl ?_
            refine zb_iald E 177 (by decide) zF_177 (f := v_actTerm) (by exact e_v_actTerm) (ib_in g1) dX12_writOf_49 ?_
            refine zb_aload_n E dX12_writOf_50 0 rfl rfl ?_
            refine zb_get E 128 (by decide) (zF_128 C.X) rfl zin12 69 (by decide) zw_1237 (v := .ref (C.X.1 + 177)) rfl dX12_writOf_51 ?_
            refine zb_iload_n E dX12_writOf_54 2 rfl rfl ?_
            obtain ⟨g3, h⟩ := gd_s h
            refine zb_iald E 177 (by decide) zF_177 (f := v_actTerm) (by exact e_v_actTerm) (ib_in g3) dX12_writOf_55 ?_
            refine zb_icmp_lt E dX12_writOf_56 (tgt := 61) rfl (fun hc => ?_) (fun hc => ?_)
            · have h := if_t h hc
              refine zb_iinc E dX12_writOf_61 3 rfl (v := (x3 + 1)) rfl (by decide) (lv2 := [(3, .int (x3 + 1)), (0, .ref (C.X.1 + 128)), (1, .int a1), (2, .int x2)]) rfl ?_
              refine zb_goto E dX12_writOf_64 (tgt := 4) rfl ?_
              refine zb_sub [1, 2, 3, 0] rfl ?_
              exact ih x2 (x3 + 1) h
            · have h := if_f h hc
              refine zb_iload_n E dX12_writOf_59 3 rfl rfl ?_
              refine zb_istore_n E dX12_writOf_60 rfl (by decide) (lv2 := [(2, .int x3), (0, .ref (C.X.1 + 128)), (1, .int a1), (3, .int x3)]) rfl ?_
              refine zb_iinc E dX12_writOf_61 3 rfl (v := (x3 + 1)) rfl (by decide) (lv2 := [(3, .int (x3 + 1)), (2, .int x3), (0, .ref (C.X.1 + 128)), (1, .int a1)]) rfl ?_
              refine zb_goto E dX12_writOf_64 (tgt := 4) rfl ?_
              refine zb_sub [2, 3, 1, 0] rfl ?_
              exact ih x3 (x3 + 1) h
theorem c_X12_writOf_0 {C : zC} {I : Nat → Nat → Int32} {J : Nat → Nat → Int64} {Rr : Nat → Nat → Option Nat} {D : zD} (N : Nat) (a1 : Int32) (v_acts : Int32) (e_v_acts : I 128 67 = v_acts) (v_knownAt : Int32) (e_v_knownAt : I 128 74 = v_knownAt) (v_without : Int32) (e_v_without : I 128 75 = v_without) (v_actKind : (Nat → Int32)) (e_v_actKind : I 176 = v_actKind) (v_actTerm : (Nat → Int32)) (e_v_actTerm : I 177 = v_actTerm) (v_voidAt : (Nat → Int32)) (e_v_voidAt : I 180 = v_voidAt) (rr : Int32) (E : zE C RX12 cX12_writOf 4 (some .int) ({ frames := 1, cells := 0, slots := 0, locals := 21 } : Room)) (hQ : C.Q = zQi C ({ frames := 1, cells := 0, slots := 0, locals := 21 } : Room) rr (I, J, Rr, D)) (h : pM_writOf N a1 v_acts v_knownAt v_without v_actKind v_actTerm v_voidAt = some rr) : zB C (0, 0) 0 [(0, .ref (C.X.1 + 128)), (1, .int a1)] [] (I, J, Rr, D) := by
  refine zb_iconst E dX12_writOf_0 (v := 0) rfl ?_
  refine zb_istore_n E dX12_writOf_1 rfl (by decide) (lv2 := [(2, .int 0), (0, .ref (C.X.1 + 128)), (1, .int a1)]) rfl ?_
  refine zb_iconst E dX12_writOf_2 (v := 1) rfl ?_
  refine zb_istore_n E dX12_writOf_3 rfl (by decide) (lv2 := [(3, .int 1), (2, .int 0), (0, .ref (C.X.1 + 128)), (1, .int a1)]) rfl ?_
  refine zb_sub [2, 3, 1, 0] rfl ?_
  exact c_X12_writOf_b4 N a1 v_acts e_v_acts v_knownAt e_v_knownAt v_without e_v_without v_actKind e_v_actKind v_actTerm e_v_actTerm v_voidAt e_v_voidAt rr E hQ _ 0 1 h
theorem c_X12_writOf {l : Launch} {X : zX} {I : Nat → Nat → Int32} {J : Nat → Nat → Int64} {Rr : Nat → Nat → Option Nat} {D : zD} {N : Nat} {a1 : Int32} (v_acts : Int32) (e_v_acts : I 128 67 = v_acts) (v_knownAt : Int32) (e_v_knownAt : I 128 74 = v_knownAt) (v_without : Int32) (e_v_without : I 128 75 = v_without) (v_actKind : (Nat → Int32)) (e_v_actKind : I 176 = v_actKind) (v_actTerm : (Nat → Int32)) (e_v_actTerm : I 177 = v_actTerm) (v_voidAt : (Nat → Int32)) (e_v_voidAt : I 180 = v_voidAt) {rr : Int32} (h : pM_writOf N a1 v_acts v_knownAt v_without v_actKind v_actTerm v_voidAt = some rr) : zMi l yX12_writOf cX12_writOf 4 (some .int) ({ frames := 1, cells := 0, slots := 0, locals := 21 } : Room) X [.ref (X.1 + 128), .int a1] (I, J, Rr, D) rr (I, J, Rr, D) := by
  refine zMi.of (by decide) (Nat.le_of_ble_eq_true rfl) (fun C E hl hX hQ => ?_)
  subst hl
  subst hX
  have eI0 : I = I := rfl
  have eJ0 : J = J := rfl
  refine zb_S (S2 := (I, J, Rr, D)) (zS_eq eI0.symm eJ0.symm) ?_
  exact c_X12_writOf_0 N a1 v_acts e_v_acts v_knownAt e_v_knownAt v_without e_v_without v_actKind e_v_actKind v_actTerm e_v_actTerm v_voidAt e_v_voidAt rr E hQ h
-- ChequeredClothModel.fireOf
abbrev R_pM_fireOf : Type := Int32
def pM_fireOf_b4_F (N : Nat) (a1 : Int32) (v_acts : Int32) (v_knownAt : Int32) (v_without : Int32) (v_actKind : (Nat → Int32)) (v_actNumber : (Nat → Int32)) (v_actTerm : (Nat → Int32)) (v_voidAt : (Nat → Int32)) (self : Int32 → Int32 → Option R_pM_fireOf) (x2 : Int32) (x3 : Int32) : Option R_pM_fireOf :=
  if v_acts < x3 then
    some x2
  else
    gd (ib x3 201) <|
    if (v_actKind (ix x3)) = 4 then
      bd1 (pM_isKnown x3 v_knownAt v_without v_voidAt) fun rc2 =>
      if rc2 = 0 then
        self x2 (x3 + 1)
      else
        if (v_actTerm (ix x3)) = a1 then
          self (v_actNumber (ix x3)) (x3 + 1)
        else
          self x2 (x3 + 1)
    else
      self x2 (x3 + 1)
def pM_fireOf_b4 (N : Nat) (a1 : Int32) (v_acts : Int32) (v_knownAt : Int32) (v_without : Int32) (v_actKind : (Nat → Int32)) (v_actNumber : (Nat → Int32)) (v_actTerm : (Nat → Int32)) (v_voidAt : (Nat → Int32)) : Nat → Int32 → Int32 → Option R_pM_fireOf := zlp2 (pM_fireOf_b4_F N a1 v_acts v_knownAt v_without v_actKind v_actNumber v_actTerm v_voidAt)
def pM_fireOf (N : Nat) (a1 : Int32) (v_acts : Int32) (v_knownAt : Int32) (v_without : Int32) (v_actKind : (Nat → Int32)) (v_actNumber : (Nat → Int32)) (v_actTerm : (Nat → Int32)) (v_voidAt : (Nat → Int32)) : Option R_pM_fireOf :=
  pM_fireOf_b4 N a1 v_acts v_knownAt v_without v_actKind v_actNumber v_actTerm v_voidAt N 0 1
theorem dX12_fireOf_0 : decode cX12_fireOf 0 = .ok (.iconst 0, 1) := by decide +kernel
theorem dX12_fireOf_1 : decode cX12_fireOf 1 = .ok (.istore_n 2, 1) := by decide +kernel
theorem dX12_fireOf_2 : decode cX12_fireOf 2 = .ok (.iconst 1, 1) := by decide +kernel
theorem dX12_fireOf_3 : decode cX12_fireOf 3 = .ok (.istore_n 3, 1) := by decide +kernel
theorem dX12_fireOf_4 : decode cX12_fireOf 4 = .ok (.iload_n 3, 1) := by decide +kernel
theorem dX12_fireOf_5 : decode cX12_fireOf 5 = .ok (.aload_n 0, 1) := by decide +kernel
theorem dX12_fireOf_6 : decode cX12_fireOf 6 = .ok (.getfield 429, 3) := by decide +kernel
theorem dX12_fireOf_9 : decode cX12_fireOf 9 = .ok (.if_icmp .gt 44, 3) := by decide +kernel
theorem dX12_fireOf_12 : decode cX12_fireOf 12 = .ok (.aload_n 0, 1) := by decide +kernel
theorem dX12_fireOf_13 : decode cX12_fireOf 13 = .ok (.getfield 169, 3) := by decide +kernel
theorem dX12_fireOf_16 : decode cX12_fireOf 16 = .ok (.iload_n 3, 1) := by decide +kernel
theorem dX12_fireOf_17 : decode cX12_fireOf 17 = .ok (.iaload, 1) := by decide +kernel
theorem dX12_fireOf_18 : decode cX12_fireOf 18 = .ok (.iconst 4, 1) := by decide +kernel
theorem dX12_fireOf_19 : decode cX12_fireOf 19 = .ok (.if_icmp .ne 28, 3) := by decide +kernel
theorem dX12_fireOf_22 : decode cX12_fireOf 22 = .ok (.aload_n 0, 1) := by decide +kernel
theorem dX12_fireOf_23 : decode cX12_fireOf 23 = .ok (.iload_n 3, 1) := by decide +kernel
theorem dX12_fireOf_24 : decode cX12_fireOf 24 = .ok (.invokevirtual 466, 3) := by decide +kernel
theorem dX12_fireOf_27 : decode cX12_fireOf 27 = .ok (.ifCond .eq 20, 3) := by decide +kernel
theorem dX12_fireOf_30 : decode cX12_fireOf 30 = .ok (.aload_n 0, 1) := by decide +kernel
theorem dX12_fireOf_31 : decode cX12_fireOf 31 = .ok (.getfield 172, 3) := by decide +kernel
theorem dX12_fireOf_34 : decode cX12_fireOf 34 = .ok (.iload_n 3, 1) := by decide +kernel
theorem dX12_fireOf_35 : decode cX12_fireOf 35 = .ok (.iaload, 1) := by decide +kernel
theorem dX12_fireOf_36 : decode cX12_fireOf 36 = .ok (.iload_n 1, 1) := by decide +kernel
theorem dX12_fireOf_37 : decode cX12_fireOf 37 = .ok (.if_icmp .ne 10, 3) := by decide +kernel
theorem dX12_fireOf_40 : decode cX12_fireOf 40 = .ok (.aload_n 0, 1) := by decide +kernel
theorem dX12_fireOf_41 : decode cX12_fireOf 41 = .ok (.getfield 178, 3) := by decide +kernel
theorem dX12_fireOf_44 : decode cX12_fireOf 44 = .ok (.iload_n 3, 1) := by decide +kernel
theorem dX12_fireOf_45 : decode cX12_fireOf 45 = .ok (.iaload, 1) := by decide +kernel
theorem dX12_fireOf_46 : decode cX12_fireOf 46 = .ok (.istore_n 2, 1) := by decide +kernel
theorem dX12_fireOf_47 : decode cX12_fireOf 47 = .ok (.iinc 3 1, 3) := by decide +kernel
theorem dX12_fireOf_50 : decode cX12_fireOf 50 = .ok (.goto (-46), 3) := by decide +kernel
theorem dX12_fireOf_53 : decode cX12_fireOf 53 = .ok (.iload_n 2, 1) := by decide +kernel
theorem dX12_fireOf_54 : decode cX12_fireOf 54 = .ok (.ireturn, 1) := by decide +kernel
theorem zy_X12_fireOf : zYv yX12_fireOf cX12_fireOf 4 (some .int) 1 := ⟨zw_1790, zws_97, zw_12, zw_1791, by decide, by decide, by decide⟩
theorem c_X12_fireOf_b4 {C : zC} {I : Nat → Nat → Int32} {J : Nat → Nat → Int64} {Rr : Nat → Nat → Option Nat} {D : zD} (N : Nat) (a1 : Int32) (v_acts : Int32) (e_v_acts : I 128 67 = v_acts) (v_knownAt : Int32) (e_v_knownAt : I 128 74 = v_knownAt) (v_without : Int32) (e_v_without : I 128 75 = v_without) (v_actKind : (Nat → Int32)) (e_v_actKind : I 176 = v_actKind) (v_actNumber : (Nat → Int32)) (e_v_actNumber : I 179 = v_actNumber) (v_actTerm : (Nat → Int32)) (e_v_actTerm : I 177 = v_actTerm) (v_voidAt : (Nat → Int32)) (e_v_voidAt : I 180 = v_voidAt) (rr : Int32) (E : zE C RX12 cX12_fireOf 4 (some .int) ({ frames := 1, cells := 0, slots := 0, locals := 21 } : Room)) (hQ : C.Q = zQi C ({ frames := 1, cells := 0, slots := 0, locals := 21 } : Room) rr (I, J, Rr, D))  : ∀ (n9 : Nat) (x2 : Int32) (x3 : Int32), pM_fireOf_b4 N a1 v_acts v_knownAt v_without v_actKind v_actNumber v_actTerm v_voidAt n9 x2 x3 = some rr → zB C (0, 0) 4 [(0, .ref (C.X.1 + 128)), (1, .int a1), (2, .int x2), (3, .int x3)] [] (I, J, Rr, D) := by
  refine zlp2_ind (P := fun (x2 : Int32) (x3 : Int32) => zB C (0, 0) 4 [(0, .ref (C.X.1 + 128)), (1, .int a1), (2, .int x2), (3, .int x3)] [] (I, J, Rr, D)) (fun self ih => ?_)
  intro x2 x3 h
  refine zb_iload_n E dX12_fireOf_4 3 rfl rfl ?_
  refine zb_aload_n E dX12_fireOf_5 0 rfl rfl ?_
  refine zb_get E 128 (by decide) (zF_128 C.X) rfl zin12 67 (by decide) zw_1235 (v := .int v_acts) (by exact congrArg (fun z => some (Value.int z)) e_v_acts) dX12_fireOf_6 ?_
  refine zb_icmp_gt E dX12_fireOf_9 (tgt := 53) rfl (fun hc => ?_) (fun hc => ?_)
  · have h := if_t h hc
    refine zb_iload_n E dX12_fireOf_53 2 rfl rfl ?_
    cases h
    exact zb_iret E hQ rfl (by decide) dX12_fireOf_54
  · have h := if_f h hc
    refine zb_aload_n E dX12_fireOf_12 0 rfl rfl ?_
    refine zb_get E 128 (by decide) (zF_128 C.X) rfl zin12 68 (by decide) zw_1236 (v := .ref (C.X.1 + 176)) rfl dX12_fireOf_13 ?_
    refine zb_iload_n E dX12_fireOf_16 3 rfl rfl ?_
    obtain ⟨g1, h⟩ := gd_s h
    refine zb_iald E 176 (by decide) zF_176 (f := v_actKind) (by exact e_v_actKind) (ib_in g1) dX12_fireOf_17 ?_
    refine zb_iconst E dX12_fireOf_18 (v := 4) rfl ?_
    refine zb_icmp_ne E dX12_fireOf_19 (tgt := 47) rfl (fun hc => ?_) (fun hc => ?_)
    · have h := if_f h hc
      refine zb_iinc E dX12_fireOf_47 3 rfl (v := (x3 + 1)) rfl (by decide) (lv2 := [(3, .int (x3 + 1)), (0, .ref (C.X.1 + 128)), (1, .int a1), (2, .int x2)]) rfl ?_
      refine zb_goto E dX12_fireOf_50 (tgt := 4) rfl ?_
      refine zb_sub [1, 2, 3, 0] rfl ?_
      exact ih x2 (x3 + 1) h
    · have h := if_t h hc
      refine zb_aload_n E dX12_fireOf_22 0 rfl rfl ?_
      refine zb_iload_n E dX12_fireOf_23 3 rfl rfl ?_
      obtain ⟨rc2, hc_24, h⟩ := bd1_s h
      refine zb_cVi E [.int x3] 128 zy_X12_isKnown zw_1739 (by decide) (zF_128 _ _ _ _) rfl (c_X12_isKnown v_knownAt (by exact e_v_knownAt) v_without (by exact e_v_without) v_voidAt (by exact e_v_voidAt) hc_24) (by decide) rfl rfl (by first | decide | simp [Value.category]) dX12_fireOf_24 (cs2 := (0, 0)) rfl ?_
      refine zb_if_eq E dX12_fireOf_27 (tgt := 47) rfl (fun hc => ?_) (fun hc => ?_)
      · have h := if_t h hc
        refine zb_iinc E dX12_fireOf_47 3 rfl (v := (x3 + 1)) rfl (by decide) (lv2 := [(3, .int (x3 + 1)), (0, .ref (C.X.1 + 128)), (1, .int a1), (2, .int x2)]) rfl ?_
        refine zb_goto E dX12_fireOf_50 (tgt := 4) rfl ?_
        refine zb_sub [1, 2, 3, 0] rfl ?_
        exact ih x2 (x3 + 1) h
      · have h := if_f h hc
        refine zb_aload_n E dX12_fireOf_30 0 rfl rfl ?_
        refine zb_get E 128 (by decide) (zF_128 C.X) rfl zin12 69 (by decide) zw_1237 (v := .ref (C.X.1 + 177)) rfl dX12_fireOf_31 ?_
        refine zb_iload_n E dX12_fireOf_34 3 rfl rfl ?_
        refine zb_iald E 177 (by decide) zF_177 (f := v_actTerm) (by exact e_v_actTerm) (ib_in g1) dX12_fireOf_35 ?_
        refine zb_iload_n E dX12_fireOf_36 1 rfl rfl ?_
        refine zb_icmp_ne E dX12_fireOf_37 (tgt := 47) rfl (fun hc => ?_) (fun hc => ?_)
        · have h := if_f h hc
          refine zb_iinc E dX12_fireOf_47 3 rfl (v := (x3 + 1)) rfl (by decide) (lv2 := [(3, .int (x3 + 1)), (0, .ref (C.X.1 + 128)), (1, .int a1), (2, .int x2)]) rfl ?_
          refine zb_goto E dX12_fireOf_50 (tgt := 4) rfl ?_
          refine zb_sub [1, 2, 3, 0] rfl ?_
          exact ih x2 (x3 + 1) h
        · have h := if_t h hc
          refine zb_aload_n E dX12_fireOf_40 0 rfl rfl ?_
          refine zb_get E 128 (by decide) (zF_128 C.X) rfl zin12 71 (by decide) zw_1239 (v := .ref (C.X.1 + 179)) rfl dX12_fireOf_41 ?_
          refine zb_iload_n E dX12_fireOf_44 3 rfl rfl ?_
          refine zb_iald E 179 (by decide) zF_179 (f := v_actNumber) (by exact e_v_actNumber) (ib_in g1) dX12_fireOf_45 ?_
          refine zb_istore_n E dX12_fireOf_46 rfl (by decide) (lv2 := [(2, .int (v_actNumber (ix x3))), (0, .ref (C.X.1 + 128)), (1, .int a1), (3, .int x3)]) rfl ?_
          refine zb_iinc E dX12_fireOf_47 3 rfl (v := (x3 + 1)) rfl (by decide) (lv2 := [(3, .int (x3 + 1)), (2, .int (v_actNumber (ix x3))), (0, .ref (C.X.1 + 128)), (1, .int a1)]) rfl ?_
          refine zb_goto E dX12_fireOf_50 (tgt := 4) rfl ?_
          refine zb_sub [2, 3, 1, 0] rfl ?_
          exact ih (v_actNumber (ix x3)) (x3 + 1) h
theorem c_X12_fireOf_0 {C : zC} {I : Nat → Nat → Int32} {J : Nat → Nat → Int64} {Rr : Nat → Nat → Option Nat} {D : zD} (N : Nat) (a1 : Int32) (v_acts : Int32) (e_v_acts : I 128 67 = v_acts) (v_knownAt : Int32) (e_v_knownAt : I 128 74 = v_knownAt) (v_without : Int32) (e_v_without : I 128 75 = v_without) (v_actKind : (Nat → Int32)) (e_v_actKind : I 176 = v_actKind) (v_actNumber : (Nat → Int32)) (e_v_actNumber : I 179 = v_actNumber) (v_actTerm : (Nat → Int32)) (e_v_actTerm : I 177 = v_actTerm) (v_voidAt : (Nat → Int32)) (e_v_voidAt : I 180 = v_voidAt) (rr : Int32) (E : zE C RX12 cX12_fireOf 4 (some .int) ({ frames := 1, cells := 0, slots := 0, locals := 21 } : Room)) (hQ : C.Q = zQi C ({ frames := 1, cells := 0, slots := 0, locals := 21 } : Room) rr (I, J, Rr, D)) (h : pM_fireOf N a1 v_acts v_knownAt v_without v_actKind v_actNumber v_actTerm v_voidAt = some rr) : zB C (0, 0) 0 [(0, .ref (C.X.1 + 128)), (1, .int a1)] [] (I, J, Rr, D) := by
  refine zb_iconst E dX12_fireOf_0 (v := 0) rfl ?_
  refine zb_istore_n E dX12_fireOf_1 rfl (by decide) (lv2 := [(2, .int 0), (0, .ref (C.X.1 + 128)), (1, .int a1)]) rfl ?_
  refine zb_iconst E dX12_fireOf_2 (v := 1) rfl ?_
  refine zb_istore_n E dX12_fireOf_3 rfl (by decide) (lv2 := [(3, .int 1), (2, .int 0), (0, .ref (C.X.1 + 128)), (1, .int a1)]) rfl ?_
  refine zb_sub [2, 3, 1, 0] rfl ?_
  exact c_X12_fireOf_b4 N a1 v_acts e_v_acts v_knownAt e_v_knownAt v_without e_v_without v_actKind e_v_actKind v_actNumber e_v_actNumber v_actTerm e_v_actTerm v_voidAt e_v_voidAt rr E hQ _ 0 1 h
theorem c_X12_fireOf {l : Launch} {X : zX} {I : Nat → Nat → Int32} {J : Nat → Nat → Int64} {Rr : Nat → Nat → Option Nat} {D : zD} {N : Nat} {a1 : Int32} (v_acts : Int32) (e_v_acts : I 128 67 = v_acts) (v_knownAt : Int32) (e_v_knownAt : I 128 74 = v_knownAt) (v_without : Int32) (e_v_without : I 128 75 = v_without) (v_actKind : (Nat → Int32)) (e_v_actKind : I 176 = v_actKind) (v_actNumber : (Nat → Int32)) (e_v_actNumber : I 179 = v_actNumber) (v_actTerm : (Nat → Int32)) (e_v_actTerm : I 177 = v_actTerm) (v_voidAt : (Nat → Int32)) (e_v_voidAt : I 180 = v_voidAt) {rr : Int32} (h : pM_fireOf N a1 v_acts v_knownAt v_without v_actKind v_actNumber v_actTerm v_voidAt = some rr) : zMi l yX12_fireOf cX12_fireOf 4 (some .int) ({ frames := 1, cells := 0, slots := 0, locals := 21 } : Room) X [.ref (X.1 + 128), .int a1] (I, J, Rr, D) rr (I, J, Rr, D) := by
  refine zMi.of (by decide) (Nat.le_of_ble_eq_true rfl) (fun C E hl hX hQ => ?_)
  subst hl
  subst hX
  have eI0 : I = I := rfl
  have eJ0 : J = J := rfl
  refine zb_S (S2 := (I, J, Rr, D)) (zS_eq eI0.symm eJ0.symm) ?_
  exact c_X12_fireOf_0 N a1 v_acts e_v_acts v_knownAt e_v_knownAt v_without e_v_without v_actKind e_v_actKind v_actNumber e_v_actNumber v_actTerm e_v_actTerm v_voidAt e_v_voidAt rr E hQ h
-- ChequeredClothModel.tellsAsKnown
abbrev R_pM_tellsAsKnown : Type := Int32 × Int32 × Int32
def pM_tellsAsKnown (a1 : Int32) (v_knownAt : Int32) (v_movedAct : Int32) (v_without : Int32) : Option R_pM_tellsAsKnown :=
  some (a1, (-1), (-1))
theorem dX12_tellsAsKnown_0 : decode cX12_tellsAsKnown 0 = .ok (.aload_n 0, 1) := by decide +kernel
theorem dX12_tellsAsKnown_1 : decode cX12_tellsAsKnown 1 = .ok (.iload_n 1, 1) := by decide +kernel
theorem dX12_tellsAsKnown_2 : decode cX12_tellsAsKnown 2 = .ok (.putfield 460, 3) := by decide +kernel
theorem dX12_tellsAsKnown_5 : decode cX12_tellsAsKnown 5 = .ok (.aload_n 0, 1) := by decide +kernel
theorem dX12_tellsAsKnown_6 : decode cX12_tellsAsKnown 6 = .ok (.iconst (-1), 1) := by decide +kernel
theorem dX12_tellsAsKnown_7 : decode cX12_tellsAsKnown 7 = .ok (.putfield 463, 3) := by decide +kernel
theorem dX12_tellsAsKnown_10 : decode cX12_tellsAsKnown 10 = .ok (.aload_n 0, 1) := by decide +kernel
theorem dX12_tellsAsKnown_11 : decode cX12_tellsAsKnown 11 = .ok (.iconst (-1), 1) := by decide +kernel
theorem dX12_tellsAsKnown_12 : decode cX12_tellsAsKnown 12 = .ok (.putfield 478, 3) := by decide +kernel
theorem dX12_tellsAsKnown_15 : decode cX12_tellsAsKnown 15 = .ok (.return_, 1) := by decide +kernel
theorem zy_X12_tellsAsKnown : zYv yX12_tellsAsKnown cX12_tellsAsKnown 2 none 1 := ⟨zw_1733, zws_86, zw_12, zw_1734, by decide, by decide, by decide⟩
theorem c_X12_tellsAsKnown_0 {C : zC} {I : Nat → Nat → Int32} {J : Nat → Nat → Int64} {Rr : Nat → Nat → Option Nat} {D : zD} (a1 : Int32) (y_v_knownAt : Int32) (y_v_movedAct : Int32) (y_v_without : Int32) (E : zE C RX12 cX12_tellsAsKnown 2 none ({ frames := 0, cells := 0, slots := 0, locals := 0 } : Room)) (hQ : C.Q = zQv C ({ frames := 0, cells := 0, slots := 0, locals := 0 } : Room) ((va_up I 128 (va_up (va_up (va_up (I 128) 74 y_v_knownAt) 75 y_v_without) 76 y_v_movedAct)), J, Rr, D)) (v_knownAt : Int32) (v_movedAct : Int32) (v_without : Int32) (h : pM_tellsAsKnown a1 v_knownAt v_movedAct v_without = some (y_v_knownAt, y_v_movedAct, y_v_without)) : zB C (0, 0) 0 [(0, .ref (C.X.1 + 128)), (1, .int a1)] [] ((va_up I 128 (va_up (va_up (va_up (I 128) 74 v_knownAt) 75 v_without) 76 v_movedAct)), J, Rr, D) := by
  refine zb_aload_n E dX12_tellsAsKnown_0 0 rfl rfl ?_
  refine zb_iload_n E dX12_tellsAsKnown_1 1 rfl rfl ?_
  refine zb_put E 128 (by decide) (zF_128 C.X) rfl zin12 74 (by decide) zw_1242 tyX12 tyX12_ok nmX12 rfl rfl rfl (I2 := (va_up I 128 (va_up (va_up (va_up (I 128) 74 a1) 75 v_without) 76 v_movedAct))) (J2 := J) ((zset12_74 C.X (va_up (va_up (va_up (I 128) 74 v_knownAt) 75 v_without) 76 v_movedAct) (J 128) a1).trans (congrArg (fun g => zf12 C.X g (J 128)) (zn3 (by decide : (76 : Nat) ≠ 74) (by decide : (75 : Nat) ≠ 74)))) (by rw [zflen12]; decide) (fun j hj => ⟨(zup_n hj).trans (zup_n hj).symm, rfl⟩) dX12_tellsAsKnown_2 ?_
  refine zb_aload_n E dX12_tellsAsKnown_5 0 rfl rfl ?_
  refine zb_iconst E dX12_tellsAsKnown_6 (v := (-1)) rfl ?_
  refine zb_put E 128 (by decide) (zF_128 C.X) rfl zin12 75 (by decide) zw_1243 tyX12 tyX12_ok nmX12 rfl rfl rfl (I2 := (va_up I 128 (va_up (va_up (va_up (I 128) 74 a1) 75 (-1)) 76 v_movedAct))) (J2 := J) ((zset12_75 C.X (va_up (va_up (va_up (I 128) 74 a1) 75 v_without) 76 v_movedAct) (J 128) (-1)).trans (congrArg (fun g => zf12 C.X g (J 128)) (zn2 (by decide : (76 : Nat) ≠ 75)))) (by rw [zflen12]; decide) (fun j hj => ⟨(zup_n hj).trans (zup_n hj).symm, rfl⟩) dX12_tellsAsKnown_7 ?_
  refine zb_aload_n E dX12_tellsAsKnown_10 0 rfl rfl ?_
  refine zb_iconst E dX12_tellsAsKnown_11 (v := (-1)) rfl ?_
  refine zb_put E 128 (by decide) (zF_128 C.X) rfl zin12 76 (by decide) zw_1244 tyX12 tyX12_ok nmX12 rfl rfl rfl (I2 := (va_up I 128 (va_up (va_up (va_up (I 128) 74 a1) 75 (-1)) 76 (-1)))) (J2 := J) ((zset12_76 C.X (va_up (va_up (va_up (I 128) 74 a1) 75 (-1)) 76 v_movedAct) (J 128) (-1)).trans (congrArg (fun g => zf12 C.X g (J 128)) zn1)) (by rw [zflen12]; decide) (fun j hj => ⟨(zup_n hj).trans (zup_n hj).symm, rfl⟩) dX12_tellsAsKnown_12 ?_
  cases h
  exact zb_vret E hQ rfl (by decide) dX12_tellsAsKnown_15
theorem c_X12_tellsAsKnown {l : Launch} {X : zX} {I : Nat → Nat → Int32} {J : Nat → Nat → Int64} {Rr : Nat → Nat → Option Nat} {D : zD} {a1 : Int32} (oI128 : Nat → Int32) (eoI128 : I 128 = oI128) (v_knownAt : Int32) (e_v_knownAt : I 128 74 = v_knownAt) (v_movedAct : Int32) (e_v_movedAct : I 128 76 = v_movedAct) (v_without : Int32) (e_v_without : I 128 75 = v_without) {y_v_knownAt : Int32} {y_v_movedAct : Int32} {y_v_without : Int32} (h : pM_tellsAsKnown a1 v_knownAt v_movedAct v_without = some (y_v_knownAt, y_v_movedAct, y_v_without)) : zMv l yX12_tellsAsKnown cX12_tellsAsKnown 2 none ({ frames := 0, cells := 0, slots := 0, locals := 0 } : Room) X [.ref (X.1 + 128), .int a1] (I, J, Rr, D) ((va_up I 128 (va_up (va_up (va_up oI128 74 y_v_knownAt) 75 y_v_without) 76 y_v_movedAct)), J, Rr, D) := by
  subst eoI128
  refine zMv.of (by decide) (Nat.le_of_ble_eq_true rfl) (fun C E hl hX hQ => ?_)
  subst hl
  subst hX
  have eI0 : (va_up I 128 (va_up (va_up (va_up (I 128) 74 v_knownAt) 75 v_without) 76 v_movedAct)) = I := by rw [zup_idE e_v_knownAt, zup_idE e_v_without, zup_idE e_v_movedAct, zup_id]
  have eJ0 : J = J := rfl
  refine zb_S (S2 := ((va_up I 128 (va_up (va_up (va_up (I 128) 74 v_knownAt) 75 v_without) 76 v_movedAct)), J, Rr, D)) (zS_eq eI0.symm eJ0.symm) ?_
  exact c_X12_tellsAsKnown_0 a1 y_v_knownAt y_v_movedAct y_v_without E hQ v_knownAt v_movedAct v_without h
-- ChequeredClothModel.force
abbrev R_pM_force : Type := Int32 × Int32 × Int32 × Int32
def pM_force (N : Nat) (a1 : Int32) (v_acts : Int32) (v_as : Int32) (v_knownAt : Int32) (v_movedAct : Int32) (v_without : Int32) (v_actKind : (Nat → Int32)) (v_actTerm : (Nat → Int32)) (v_many : (Nat → Int32)) (v_voidAt : (Nat → Int32)) : Option R_pM_force :=
  bd1 (pM_isTerm a1) fun rc1 =>
  if rc1 = 0 then
    some ((-1), v_knownAt, v_movedAct, v_without)
  else
    bd1 (pM_asNow v_acts v_as) fun rc2 =>
    bd3 (pM_tellsAsKnown rc2 v_knownAt v_movedAct v_without) fun v_knownAt_c3 v_movedAct_c3 v_without_c3 =>
    bd1 (pM_writOf N a1 v_acts v_knownAt_c3 v_without_c3 v_actKind v_actTerm v_voidAt) fun rc4 =>
    if rc4 = 0 then
      some ((-1), v_knownAt_c3, v_movedAct_c3, v_without_c3)
    else
      gd (ib rc4 201) <|
      some ((v_many (ix rc4)), v_knownAt_c3, v_movedAct_c3, v_without_c3)
theorem dX12_force_0 : decode cX12_force 0 = .ok (.iload_n 1, 1) := by decide +kernel
theorem dX12_force_1 : decode cX12_force 1 = .ok (.invokestatic 432, 3) := by decide +kernel
theorem dX12_force_4 : decode cX12_force 4 = .ok (.ifCond .ne 5, 3) := by decide +kernel
theorem dX12_force_7 : decode cX12_force 7 = .ok (.iconst (-1), 1) := by decide +kernel
theorem dX12_force_8 : decode cX12_force 8 = .ok (.ireturn, 1) := by decide +kernel
theorem dX12_force_9 : decode cX12_force 9 = .ok (.aload_n 0, 1) := by decide +kernel
theorem dX12_force_10 : decode cX12_force 10 = .ok (.aload_n 0, 1) := by decide +kernel
theorem dX12_force_11 : decode cX12_force 11 = .ok (.invokevirtual 469, 3) := by decide +kernel
theorem dX12_force_14 : decode cX12_force 14 = .ok (.invokevirtual 472, 3) := by decide +kernel
theorem dX12_force_17 : decode cX12_force 17 = .ok (.aload_n 0, 1) := by decide +kernel
theorem dX12_force_18 : decode cX12_force 18 = .ok (.iload_n 1, 1) := by decide +kernel
theorem dX12_force_19 : decode cX12_force 19 = .ok (.invokevirtual 475, 3) := by decide +kernel
theorem dX12_force_22 : decode cX12_force 22 = .ok (.istore_n 2, 1) := by decide +kernel
theorem dX12_force_23 : decode cX12_force 23 = .ok (.iload_n 2, 1) := by decide +kernel
theorem dX12_force_24 : decode cX12_force 24 = .ok (.ifCond .ne 7, 3) := by decide +kernel
theorem dX12_force_27 : decode cX12_force 27 = .ok (.iconst (-1), 1) := by decide +kernel
theorem dX12_force_28 : decode cX12_force 28 = .ok (.goto 9, 3) := by decide +kernel
theorem dX12_force_31 : decode cX12_force 31 = .ok (.aload_n 0, 1) := by decide +kernel
theorem dX12_force_32 : decode cX12_force 32 = .ok (.getfield 133, 3) := by decide +kernel
theorem dX12_force_35 : decode cX12_force 35 = .ok (.iload_n 2, 1) := by decide +kernel
theorem dX12_force_36 : decode cX12_force 36 = .ok (.iaload, 1) := by decide +kernel
theorem dX12_force_37 : decode cX12_force 37 = .ok (.ireturn, 1) := by decide +kernel
theorem zy_X12_force : zYv yX12_force cX12_force 3 (some .int) 1 := ⟨zw_1724, zw_1725, zw_12, zw_1726, by decide, by decide, by decide⟩
theorem c_X12_force_0 {C : zC} {I : Nat → Nat → Int32} {J : Nat → Nat → Int64} {Rr : Nat → Nat → Option Nat} {D : zD} (N : Nat) (a1 : Int32) (v_acts : Int32) (e_v_acts : I 128 67 = v_acts) (v_as : Int32) (e_v_as : I 128 73 = v_as) (v_actKind : (Nat → Int32)) (e_v_actKind : I 176 = v_actKind) (v_actTerm : (Nat → Int32)) (e_v_actTerm : I 177 = v_actTerm) (v_many : (Nat → Int32)) (e_v_many : I 165 = v_many) (v_voidAt : (Nat → Int32)) (e_v_voidAt : I 180 = v_voidAt) (rr : Int32) (y_v_knownAt : Int32) (y_v_movedAct : Int32) (y_v_without : Int32) (E : zE C RX12 cX12_force 3 (some .int) ({ frames := 2, cells := 0, slots := 0, locals := 45 } : Room)) (hQ : C.Q = zQi C ({ frames := 2, cells := 0, slots := 0, locals := 45 } : Room) rr ((va_up I 128 (va_up (va_up (va_up (I 128) 74 y_v_knownAt) 75 y_v_without) 76 y_v_movedAct)), J, Rr, D)) (v_knownAt : Int32) (v_movedAct : Int32) (v_without : Int32) (h : pM_force N a1 v_acts v_as v_knownAt v_movedAct v_without v_actKind v_actTerm v_many v_voidAt = some (rr, y_v_knownAt, y_v_movedAct, y_v_without)) : zB C (0, 0) 0 [(0, .ref (C.X.1 + 128)), (1, .int a1)] [] ((va_up I 128 (va_up (va_up (va_up (I 128) 74 v_knownAt) 75 v_without) 76 v_movedAct)), J, Rr, D) := by
  refine zb_iload_n E dX12_force_0 1 rfl rfl ?_
  obtain ⟨rc1, hc_1, h⟩ := bd1_s h
  refine zb_cSi E [.int a1] zy_X12_isTerm zw_1561 (c_X12_isTerm hc_1) (by decide) rfl rfl (by first | decide | simp [Value.category]) dX12_force_1 (cs2 := (0, 0)) rfl ?_
  refine zb_if_ne E dX12_force_4 (tgt := 9) rfl (fun hc => ?_) (fun hc => ?_)
  · have h := if_f h hc
    refine zb_aload_n E dX12_force_9 0 rfl rfl ?_
    refine zb_aload_n E dX12_force_10 0 rfl rfl ?_
    obtain ⟨rc2, hc_11, h⟩ := bd1_s h
    refine zb_cVi E [] 128 zy_X12_asNow zw_1727 (by decide) (zF_128 _ _ _ _) rfl (c_X12_asNow v_acts (by exact e_v_acts) v_as (by exact e_v_as) hc_11) (by decide) rfl rfl (by first | decide | simp [Value.category]) dX12_force_11 (cs2 := (0, 0)) rfl ?_
    obtain ⟨v_knownAt_c3, v_movedAct_c3, v_without_c3, hc_14, h⟩ := bd3_s h
    refine zb_cVv E [.int rc2] 128 zy_X12_tellsAsKnown zw_1731 (by decide) (zF_128 _ _ _ _) rfl (c_X12_tellsAsKnown (va_up (va_up (va_up (I 128) 74 v_knownAt) 75 v_without) 76 v_movedAct) rfl v_knownAt rfl v_movedAct rfl v_without rfl hc_14) (by decide) rfl rfl (by first | decide | simp [Value.category]) dX12_force_14 (cs2 := (0, 0)) rfl ?_
    refine zb_S (S2 := ((va_up I 128 (va_up (va_up (va_up (I 128) 74 v_knownAt_c3) 75 v_without_c3) 76 v_movedAct_c3)), J, Rr, D)) (zS_eq ((zcgV ((zcgF ((zcgF (zn3 (by decide : (76 : Nat) ≠ 74) (by decide : (75 : Nat) ≠ 74))).trans (zn2 (by decide : (76 : Nat) ≠ 75)))).trans zn1)).trans zn1) rfl) ?_
    refine zb_aload_n E dX12_force_17 0 rfl rfl ?_
    refine zb_iload_n E dX12_force_18 1 rfl rfl ?_
    obtain ⟨rc4, hc_19, h⟩ := bd1_s h
    refine zb_cVi E [.int a1] 128 zy_X12_writOf zw_1735 (by decide) (zF_128 _ _ _ _) rfl (c_X12_writOf v_acts (by exact e_v_acts) v_knownAt_c3 rfl v_without_c3 rfl v_actKind (by exact e_v_actKind) v_actTerm (by exact e_v_actTerm) v_voidAt (by exact e_v_voidAt) hc_19) (by decide) rfl rfl (by first | decide | simp [Value.category]) dX12_force_19 (cs2 := (0, 0)) rfl ?_
    refine zb_istore_n E dX12_force_22 rfl (by decide) (lv2 := [(2, .int rc4), (0, .ref (C.X.1 + 128)), (1, .int a1)]) rfl ?_
    refine zb_iload_n E dX12_force_23 0 rfl rfl ?_
    refine zb_if_ne E dX12_force_24 (tgt := 31) rfl (fun hc => ?_) (fun hc => ?_)
    · have h := if_f h hc
      refine zb_aload_n E dX12_force_31 1 rfl rfl ?_
      refine zb_get E 128 (by decide) (zF_128 C.X) rfl zin12 47 (by decide) zw_1215 (v := .ref (C.X.1 + 165)) rfl dX12_force_32 ?_
      refine zb_iload_n E dX12_force_35 0 rfl rfl ?_
      obtain ⟨g5, h⟩ := gd_s h
      refine zb_iald E 165 (by decide) zF_165 (f := v_many) (by exact e_v_many) (ib_in g5) dX12_force_36 ?_
      cases h
      exact zb_iret E hQ rfl (by decide) dX12_force_37
    · have h := if_t h hc
      refine zb_iconst E dX12_force_27 (v := (-1)) rfl ?_
      refine zb_goto E dX12_force_28 (tgt := 37) rfl ?_
      cases h
      exact zb_iret E hQ rfl (by decide) dX12_force_37
  · have h := if_t h hc
    refine zb_iconst E dX12_force_7 (v := (-1)) rfl ?_
    cases h
    exact zb_iret E hQ rfl (by decide) dX12_force_8
theorem c_X12_force {l : Launch} {X : zX} {I : Nat → Nat → Int32} {J : Nat → Nat → Int64} {Rr : Nat → Nat → Option Nat} {D : zD} {N : Nat} {a1 : Int32} (oI128 : Nat → Int32) (eoI128 : I 128 = oI128) (v_acts : Int32) (e_v_acts : I 128 67 = v_acts) (v_as : Int32) (e_v_as : I 128 73 = v_as) (v_actKind : (Nat → Int32)) (e_v_actKind : I 176 = v_actKind) (v_actTerm : (Nat → Int32)) (e_v_actTerm : I 177 = v_actTerm) (v_many : (Nat → Int32)) (e_v_many : I 165 = v_many) (v_voidAt : (Nat → Int32)) (e_v_voidAt : I 180 = v_voidAt) (v_knownAt : Int32) (e_v_knownAt : I 128 74 = v_knownAt) (v_movedAct : Int32) (e_v_movedAct : I 128 76 = v_movedAct) (v_without : Int32) (e_v_without : I 128 75 = v_without) {rr : Int32} {y_v_knownAt : Int32} {y_v_movedAct : Int32} {y_v_without : Int32} (h : pM_force N a1 v_acts v_as v_knownAt v_movedAct v_without v_actKind v_actTerm v_many v_voidAt = some (rr, y_v_knownAt, y_v_movedAct, y_v_without)) : zMi l yX12_force cX12_force 3 (some .int) ({ frames := 2, cells := 0, slots := 0, locals := 45 } : Room) X [.ref (X.1 + 128), .int a1] (I, J, Rr, D) rr ((va_up I 128 (va_up (va_up (va_up oI128 74 y_v_knownAt) 75 y_v_without) 76 y_v_movedAct)), J, Rr, D) := by
  subst eoI128
  refine zMi.of (by decide) (Nat.le_of_ble_eq_true rfl) (fun C E hl hX hQ => ?_)
  subst hl
  subst hX
  have eI0 : (va_up I 128 (va_up (va_up (va_up (I 128) 74 v_knownAt) 75 v_without) 76 v_movedAct)) = I := by rw [zup_idE e_v_knownAt, zup_idE e_v_without, zup_idE e_v_movedAct, zup_id]
  have eJ0 : J = J := rfl
  refine zb_S (S2 := ((va_up I 128 (va_up (va_up (va_up (I 128) 74 v_knownAt) 75 v_without) 76 v_movedAct)), J, Rr, D)) (zS_eq eI0.symm eJ0.symm) ?_
  exact c_X12_force_0 N a1 v_acts e_v_acts v_as e_v_as v_actKind e_v_actKind v_actTerm e_v_actTerm v_many e_v_many v_voidAt e_v_voidAt rr y_v_knownAt y_v_movedAct y_v_without E hQ v_knownAt v_movedAct v_without h
-- ChequeredClothModel.takesPayments
abbrev R_pM_takesPayments : Type := Int64 × Int64
def pM_takesPayments_b153 (N : Nat) (v_acts : Int32) (v_isBlanchedNow : Int32) (v_knownAt : Int32) (v_movedAct : Int32) (v_movedTerm : Int32) (v_now : Int32) (v_shireNow : Int32) (v_without : Int32) (v_actKind : (Nat → Int32)) (v_actNumber : (Nat → Int32)) (v_actShire : (Nat → Int32)) (v_actTerm : (Nat → Int32)) (v_cutWorth : (Nat → Int32)) (v_cuts : (Nat → Int32)) (v_mates : (Nat → Int32)) (v_pence : (Nat → Int32)) (v_voidAt : (Nat → Int32)) (self : Int32 → Int64 → Int64 → Option R_pM_takesPayments) (x1 : Int32) (x2 : Int64) (v_debt : Int64) (v_paid : Int64) : Option R_pM_takesPayments :=
  self (x1 + 1) (v_debt - x2) (v_paid + x2)
def pM_takesPayments_b121 (N : Nat) (v_acts : Int32) (v_isBlanchedNow : Int32) (v_knownAt : Int32) (v_movedAct : Int32) (v_movedTerm : Int32) (v_now : Int32) (v_shireNow : Int32) (v_without : Int32) (v_actKind : (Nat → Int32)) (v_actNumber : (Nat → Int32)) (v_actShire : (Nat → Int32)) (v_actTerm : (Nat → Int32)) (v_cutWorth : (Nat → Int32)) (v_cuts : (Nat → Int32)) (v_mates : (Nat → Int32)) (v_pence : (Nat → Int32)) (v_voidAt : (Nat → Int32)) (self : Int32 → Int64 → Int64 → Option R_pM_takesPayments) (x1 : Int32) (s0 : Int64) (s1 : Int64) (v_debt : Int64) (v_paid : Int64) : Option R_pM_takesPayments :=
  pM_takesPayments_b153 N v_acts v_isBlanchedNow v_knownAt v_movedAct v_movedTerm v_now v_shireNow v_without v_actKind v_actNumber v_actShire v_actTerm v_cutWorth v_cuts v_mates v_pence v_voidAt self x1 (s0 - s1) v_debt v_paid
def pM_takesPayments_b60 (N : Nat) (v_acts : Int32) (v_isBlanchedNow : Int32) (v_knownAt : Int32) (v_movedAct : Int32) (v_movedTerm : Int32) (v_now : Int32) (v_shireNow : Int32) (v_without : Int32) (v_actKind : (Nat → Int32)) (v_actNumber : (Nat → Int32)) (v_actShire : (Nat → Int32)) (v_actTerm : (Nat → Int32)) (v_cutWorth : (Nat → Int32)) (v_cuts : (Nat → Int32)) (v_mates : (Nat → Int32)) (v_pence : (Nat → Int32)) (v_voidAt : (Nat → Int32)) (self : Int32 → Int64 → Int64 → Option R_pM_takesPayments) (x1 : Int32) (s0 : Int32) (v_debt : Int64) (v_paid : Int64) : Option R_pM_takesPayments :=
  if s0 = v_now then
    gd (ib x1 201) <|
    if (v_actKind (ix x1)) = 2 then
      if v_isBlanchedNow = 0 then
        pM_takesPayments_b121 N v_acts v_isBlanchedNow v_knownAt v_movedAct v_movedTerm v_now v_shireNow v_without v_actKind v_actNumber v_actShire v_actTerm v_cutWorth v_cuts v_mates v_pence v_voidAt self x1 (i2l (v_actNumber (ix x1))) 0 v_debt v_paid
      else
        bd1 (pM_fireOf N v_now v_acts v_knownAt v_without v_actKind v_actNumber v_actTerm v_voidAt) fun rc7 =>
        pM_takesPayments_b121 N v_acts v_isBlanchedNow v_knownAt v_movedAct v_movedTerm v_now v_shireNow v_without v_actKind v_actNumber v_actShire v_actTerm v_cutWorth v_cuts v_mates v_pence v_voidAt self x1 (i2l (v_actNumber (ix x1))) (((i2l (v_actNumber (ix x1))) * (i2l rc7)) / 240) v_debt v_paid
    else
      gd (ib (v_actNumber (ix x1)) 10) <|
      if (v_mates (ix (v_actNumber (ix x1)))) = (-1) then
        pM_takesPayments_b153 N v_acts v_isBlanchedNow v_knownAt v_movedAct v_movedTerm v_now v_shireNow v_without v_actKind v_actNumber v_actShire v_actTerm v_cutWorth v_cuts v_mates v_pence v_voidAt self x1 0 v_debt v_paid
      else
        bd1 (pM_sumOf N (v_actNumber (ix x1)) v_cutWorth v_cuts v_pence) fun rc6 =>
        pM_takesPayments_b153 N v_acts v_isBlanchedNow v_knownAt v_movedAct v_movedTerm v_now v_shireNow v_without v_actKind v_actNumber v_actShire v_actTerm v_cutWorth v_cuts v_mates v_pence v_voidAt self x1 (i2l rc6) v_debt v_paid
  else
    self (x1 + 1) v_debt v_paid
def pM_takesPayments_b2_F (N : Nat) (v_acts : Int32) (v_isBlanchedNow : Int32) (v_knownAt : Int32) (v_movedAct : Int32) (v_movedTerm : Int32) (v_now : Int32) (v_shireNow : Int32) (v_without : Int32) (v_actKind : (Nat → Int32)) (v_actNumber : (Nat → Int32)) (v_actShire : (Nat → Int32)) (v_actTerm : (Nat → Int32)) (v_cutWorth : (Nat → Int32)) (v_cuts : (Nat → Int32)) (v_mates : (Nat → Int32)) (v_pence : (Nat → Int32)) (v_voidAt : (Nat → Int32)) (self : Int32 → Int64 → Int64 → Option R_pM_takesPayments) (x1 : Int32) (v_debt : Int64) (v_paid : Int64) : Option R_pM_takesPayments :=
  if v_acts < x1 then
    some (v_debt, v_paid)
  else
    bd1 (pM_isPayment x1 v_actKind) fun rc1 =>
    if rc1 = 0 then
      self (x1 + 1) v_debt v_paid
    else
      bd1 (pM_isKnown x1 v_knownAt v_without v_voidAt) fun rc2 =>
      if rc2 = 0 then
        self (x1 + 1) v_debt v_paid
      else
        gd (ib x1 201) <|
        if (v_actShire (ix x1)) = v_shireNow then
          if x1 = v_movedAct then
            pM_takesPayments_b60 N v_acts v_isBlanchedNow v_knownAt v_movedAct v_movedTerm v_now v_shireNow v_without v_actKind v_actNumber v_actShire v_actTerm v_cutWorth v_cuts v_mates v_pence v_voidAt self x1 v_movedTerm v_debt v_paid
          else
            pM_takesPayments_b60 N v_acts v_isBlanchedNow v_knownAt v_movedAct v_movedTerm v_now v_shireNow v_without v_actKind v_actNumber v_actShire v_actTerm v_cutWorth v_cuts v_mates v_pence v_voidAt self x1 (v_actTerm (ix x1)) v_debt v_paid
        else
          self (x1 + 1) v_debt v_paid
def pM_takesPayments_b2 (N : Nat) (v_acts : Int32) (v_isBlanchedNow : Int32) (v_knownAt : Int32) (v_movedAct : Int32) (v_movedTerm : Int32) (v_now : Int32) (v_shireNow : Int32) (v_without : Int32) (v_actKind : (Nat → Int32)) (v_actNumber : (Nat → Int32)) (v_actShire : (Nat → Int32)) (v_actTerm : (Nat → Int32)) (v_cutWorth : (Nat → Int32)) (v_cuts : (Nat → Int32)) (v_mates : (Nat → Int32)) (v_pence : (Nat → Int32)) (v_voidAt : (Nat → Int32)) : Nat → Int32 → Int64 → Int64 → Option R_pM_takesPayments := zlp3 (pM_takesPayments_b2_F N v_acts v_isBlanchedNow v_knownAt v_movedAct v_movedTerm v_now v_shireNow v_without v_actKind v_actNumber v_actShire v_actTerm v_cutWorth v_cuts v_mates v_pence v_voidAt)
def pM_takesPayments (N : Nat) (v_acts : Int32) (v_debt : Int64) (v_isBlanchedNow : Int32) (v_knownAt : Int32) (v_movedAct : Int32) (v_movedTerm : Int32) (v_now : Int32) (v_paid : Int64) (v_shireNow : Int32) (v_without : Int32) (v_actKind : (Nat → Int32)) (v_actNumber : (Nat → Int32)) (v_actShire : (Nat → Int32)) (v_actTerm : (Nat → Int32)) (v_cutWorth : (Nat → Int32)) (v_cuts : (Nat → Int32)) (v_mates : (Nat → Int32)) (v_pence : (Nat → Int32)) (v_voidAt : (Nat → Int32)) : Option R_pM_takesPayments :=
  pM_takesPayments_b2 N v_acts v_isBlanchedNow v_knownAt v_movedAct v_movedTerm v_now v_shireNow v_without v_actKind v_actNumber v_actShire v_actTerm v_cutWorth v_cuts v_mates v_pence v_voidAt N 1 v_debt v_paid
theorem dX12_takesPayments_0 : decode cX12_takesPayments 0 = .ok (.iconst 1, 1) := by decide +kernel
theorem dX12_takesPayments_1 : decode cX12_takesPayments 1 = .ok (.istore_n 1, 1) := by decide +kernel
theorem dX12_takesPayments_2 : decode cX12_takesPayments 2 = .ok (.iload_n 1, 1) := by decide +kernel
theorem dX12_takesPayments_3 : decode cX12_takesPayments 3 = .ok (.aload_n 0, 1) := by decide +kernel
theorem dX12_takesPayments_4 : decode cX12_takesPayments 4 = .ok (.getfield 429, 3) := by decide +kernel
theorem dX12_takesPayments_7 : decode cX12_takesPayments 7 = .ok (.if_icmp .gt 172, 3) := by decide +kernel
theorem dX12_takesPayments_10 : decode cX12_takesPayments 10 = .ok (.aload_n 0, 1) := by decide +kernel
theorem dX12_takesPayments_11 : decode cX12_takesPayments 11 = .ok (.iload_n 1, 1) := by decide +kernel
theorem dX12_takesPayments_12 : decode cX12_takesPayments 12 = .ok (.invokevirtual 445, 3) := by decide +kernel
theorem dX12_takesPayments_15 : decode cX12_takesPayments 15 = .ok (.ifCond .eq 158, 3) := by decide +kernel
theorem dX12_takesPayments_18 : decode cX12_takesPayments 18 = .ok (.aload_n 0, 1) := by decide +kernel
theorem dX12_takesPayments_19 : decode cX12_takesPayments 19 = .ok (.iload_n 1, 1) := by decide +kernel
theorem dX12_takesPayments_20 : decode cX12_takesPayments 20 = .ok (.invokevirtual 466, 3) := by decide +kernel
theorem dX12_takesPayments_23 : decode cX12_takesPayments 23 = .ok (.ifCond .eq 150, 3) := by decide +kernel
theorem dX12_takesPayments_26 : decode cX12_takesPayments 26 = .ok (.aload_n 0, 1) := by decide +kernel
theorem dX12_takesPayments_27 : decode cX12_takesPayments 27 = .ok (.getfield 175, 3) := by decide +kernel
theorem dX12_takesPayments_30 : decode cX12_takesPayments 30 = .ok (.iload_n 1, 1) := by decide +kernel
theorem dX12_takesPayments_31 : decode cX12_takesPayments 31 = .ok (.iaload, 1) := by decide +kernel
theorem dX12_takesPayments_32 : decode cX12_takesPayments 32 = .ok (.aload_n 0, 1) := by decide +kernel
theorem dX12_takesPayments_33 : decode cX12_takesPayments 33 = .ok (.getfield 409, 3) := by decide +kernel
theorem dX12_takesPayments_36 : decode cX12_takesPayments 36 = .ok (.if_icmp .ne 137, 3) := by decide +kernel
theorem dX12_takesPayments_39 : decode cX12_takesPayments 39 = .ok (.iload_n 1, 1) := by decide +kernel
theorem dX12_takesPayments_40 : decode cX12_takesPayments 40 = .ok (.aload_n 0, 1) := by decide +kernel
theorem dX12_takesPayments_41 : decode cX12_takesPayments 41 = .ok (.getfield 478, 3) := by decide +kernel
theorem dX12_takesPayments_44 : decode cX12_takesPayments 44 = .ok (.if_icmp .ne 10, 3) := by decide +kernel
theorem dX12_takesPayments_47 : decode cX12_takesPayments 47 = .ok (.aload_n 0, 1) := by decide +kernel
theorem dX12_takesPayments_48 : decode cX12_takesPayments 48 = .ok (.getfield 505, 3) := by decide +kernel
theorem dX12_takesPayments_51 : decode cX12_takesPayments 51 = .ok (.goto 9, 3) := by decide +kernel
theorem dX12_takesPayments_54 : decode cX12_takesPayments 54 = .ok (.aload_n 0, 1) := by decide +kernel
theorem dX12_takesPayments_55 : decode cX12_takesPayments 55 = .ok (.getfield 172, 3) := by decide +kernel
theorem dX12_takesPayments_58 : decode cX12_takesPayments 58 = .ok (.iload_n 1, 1) := by decide +kernel
theorem dX12_takesPayments_59 : decode cX12_takesPayments 59 = .ok (.iaload, 1) := by decide +kernel
theorem dX12_takesPayments_60 : decode cX12_takesPayments 60 = .ok (.aload_n 0, 1) := by decide +kernel
theorem dX12_takesPayments_61 : decode cX12_takesPayments 61 = .ok (.getfield 412, 3) := by decide +kernel
theorem dX12_takesPayments_64 : decode cX12_takesPayments 64 = .ok (.if_icmp .eq 6, 3) := by decide +kernel
theorem dX12_takesPayments_67 : decode cX12_takesPayments 67 = .ok (.goto 106, 3) := by decide +kernel
theorem dX12_takesPayments_70 : decode cX12_takesPayments 70 = .ok (.lconst 0, 1) := by decide +kernel
theorem dX12_takesPayments_71 : decode cX12_takesPayments 71 = .ok (.lstore_n 2, 1) := by decide +kernel
theorem dX12_takesPayments_72 : decode cX12_takesPayments 72 = .ok (.aload_n 0, 1) := by decide +kernel
theorem dX12_takesPayments_73 : decode cX12_takesPayments 73 = .ok (.getfield 169, 3) := by decide +kernel
theorem dX12_takesPayments_76 : decode cX12_takesPayments 76 = .ok (.iload_n 1, 1) := by decide +kernel
theorem dX12_takesPayments_77 : decode cX12_takesPayments 77 = .ok (.iaload, 1) := by decide +kernel
theorem dX12_takesPayments_78 : decode cX12_takesPayments 78 = .ok (.iconst 2, 1) := by decide +kernel
theorem dX12_takesPayments_79 : decode cX12_takesPayments 79 = .ok (.if_icmp .ne 47, 3) := by decide +kernel
theorem dX12_takesPayments_82 : decode cX12_takesPayments 82 = .ok (.aload_n 0, 1) := by decide +kernel
theorem dX12_takesPayments_83 : decode cX12_takesPayments 83 = .ok (.getfield 178, 3) := by decide +kernel
theorem dX12_takesPayments_86 : decode cX12_takesPayments 86 = .ok (.iload_n 1, 1) := by decide +kernel
theorem dX12_takesPayments_87 : decode cX12_takesPayments 87 = .ok (.iaload, 1) := by decide +kernel
theorem dX12_takesPayments_88 : decode cX12_takesPayments 88 = .ok (.i2l, 1) := by decide +kernel
theorem dX12_takesPayments_89 : decode cX12_takesPayments 89 = .ok (.aload_n 0, 1) := by decide +kernel
theorem dX12_takesPayments_90 : decode cX12_takesPayments 90 = .ok (.getfield 495, 3) := by decide +kernel
theorem dX12_takesPayments_93 : decode cX12_takesPayments 93 = .ok (.ifCond .eq 27, 3) := by decide +kernel
theorem dX12_takesPayments_96 : decode cX12_takesPayments 96 = .ok (.aload_n 0, 1) := by decide +kernel
theorem dX12_takesPayments_97 : decode cX12_takesPayments 97 = .ok (.getfield 178, 3) := by decide +kernel
theorem dX12_takesPayments_100 : decode cX12_takesPayments 100 = .ok (.iload_n 1, 1) := by decide +kernel
theorem dX12_takesPayments_101 : decode cX12_takesPayments 101 = .ok (.iaload, 1) := by decide +kernel
theorem dX12_takesPayments_102 : decode cX12_takesPayments 102 = .ok (.i2l, 1) := by decide +kernel
theorem dX12_takesPayments_103 : decode cX12_takesPayments 103 = .ok (.aload_n 0, 1) := by decide +kernel
theorem dX12_takesPayments_104 : decode cX12_takesPayments 104 = .ok (.aload_n 0, 1) := by decide +kernel
theorem dX12_takesPayments_105 : decode cX12_takesPayments 105 = .ok (.getfield 412, 3) := by decide +kernel
theorem dX12_takesPayments_108 : decode cX12_takesPayments 108 = .ok (.invokevirtual 508, 3) := by decide +kernel
theorem dX12_takesPayments_111 : decode cX12_takesPayments 111 = .ok (.i2l, 1) := by decide +kernel
theorem dX12_takesPayments_112 : decode cX12_takesPayments 112 = .ok (.lmul, 1) := by decide +kernel
theorem dX12_takesPayments_113 : decode cX12_takesPayments 113 = .ok (.ldc2_w 235, 3) := by decide +kernel
theorem dX12_takesPayments_116 : decode cX12_takesPayments 116 = .ok (.ldiv, 1) := by decide +kernel
theorem dX12_takesPayments_117 : decode cX12_takesPayments 117 = .ok (.goto 4, 3) := by decide +kernel
theorem dX12_takesPayments_120 : decode cX12_takesPayments 120 = .ok (.lconst 0, 1) := by decide +kernel
theorem dX12_takesPayments_121 : decode cX12_takesPayments 121 = .ok (.lsub, 1) := by decide +kernel
theorem dX12_takesPayments_122 : decode cX12_takesPayments 122 = .ok (.lstore_n 2, 1) := by decide +kernel
theorem dX12_takesPayments_123 : decode cX12_takesPayments 123 = .ok (.goto 30, 3) := by decide +kernel
theorem dX12_takesPayments_126 : decode cX12_takesPayments 126 = .ok (.aload_n 0, 1) := by decide +kernel
theorem dX12_takesPayments_127 : decode cX12_takesPayments 127 = .ok (.getfield 57, 3) := by decide +kernel
theorem dX12_takesPayments_130 : decode cX12_takesPayments 130 = .ok (.aload_n 0, 1) := by decide +kernel
theorem dX12_takesPayments_131 : decode cX12_takesPayments 131 = .ok (.getfield 178, 3) := by decide +kernel
theorem dX12_takesPayments_134 : decode cX12_takesPayments 134 = .ok (.iload_n 1, 1) := by decide +kernel
theorem dX12_takesPayments_135 : decode cX12_takesPayments 135 = .ok (.iaload, 1) := by decide +kernel
theorem dX12_takesPayments_136 : decode cX12_takesPayments 136 = .ok (.iaload, 1) := by decide +kernel
theorem dX12_takesPayments_137 : decode cX12_takesPayments 137 = .ok (.iconst (-1), 1) := by decide +kernel
theorem dX12_takesPayments_138 : decode cX12_takesPayments 138 = .ok (.if_icmp .eq 15, 3) := by decide +kernel
theorem dX12_takesPayments_141 : decode cX12_takesPayments 141 = .ok (.aload_n 0, 1) := by decide +kernel
theorem dX12_takesPayments_142 : decode cX12_takesPayments 142 = .ok (.aload_n 0, 1) := by decide +kernel
theorem dX12_takesPayments_143 : decode cX12_takesPayments 143 = .ok (.getfield 178, 3) := by decide +kernel
theorem dX12_takesPayments_146 : decode cX12_takesPayments 146 = .ok (.iload_n 1, 1) := by decide +kernel
theorem dX12_takesPayments_147 : decode cX12_takesPayments 147 = .ok (.iaload, 1) := by decide +kernel
theorem dX12_takesPayments_148 : decode cX12_takesPayments 148 = .ok (.invokevirtual 243, 3) := by decide +kernel
theorem dX12_takesPayments_151 : decode cX12_takesPayments 151 = .ok (.i2l, 1) := by decide +kernel
theorem dX12_takesPayments_152 : decode cX12_takesPayments 152 = .ok (.lstore_n 2, 1) := by decide +kernel
theorem dX12_takesPayments_153 : decode cX12_takesPayments 153 = .ok (.aload_n 0, 1) := by decide +kernel
theorem dX12_takesPayments_154 : decode cX12_takesPayments 154 = .ok (.dup, 1) := by decide +kernel
theorem dX12_takesPayments_155 : decode cX12_takesPayments 155 = .ok (.getfield 415, 3) := by decide +kernel
theorem dX12_takesPayments_158 : decode cX12_takesPayments 158 = .ok (.lload_n 2, 1) := by decide +kernel
theorem dX12_takesPayments_159 : decode cX12_takesPayments 159 = .ok (.lsub, 1) := by decide +kernel
theorem dX12_takesPayments_160 : decode cX12_takesPayments 160 = .ok (.putfield 415, 3) := by decide +kernel
theorem dX12_takesPayments_163 : decode cX12_takesPayments 163 = .ok (.aload_n 0, 1) := by decide +kernel
theorem dX12_takesPayments_164 : decode cX12_takesPayments 164 = .ok (.dup, 1) := by decide +kernel
theorem dX12_takesPayments_165 : decode cX12_takesPayments 165 = .ok (.getfield 419, 3) := by decide +kernel
theorem dX12_takesPayments_168 : decode cX12_takesPayments 168 = .ok (.lload_n 2, 1) := by decide +kernel
theorem dX12_takesPayments_169 : decode cX12_takesPayments 169 = .ok (.ladd, 1) := by decide +kernel
theorem dX12_takesPayments_170 : decode cX12_takesPayments 170 = .ok (.putfield 419, 3) := by decide +kernel
theorem dX12_takesPayments_173 : decode cX12_takesPayments 173 = .ok (.iinc 1 1, 3) := by decide +kernel
theorem dX12_takesPayments_176 : decode cX12_takesPayments 176 = .ok (.goto (-174), 3) := by decide +kernel
theorem dX12_takesPayments_179 : decode cX12_takesPayments 179 = .ok (.return_, 1) := by decide +kernel
theorem zy_X12_takesPayments : zYv yX12_takesPayments cX12_takesPayments 4 none 0 := ⟨zw_1786, zws_96, zw_12, zw_1787, by decide, by decide, by decide⟩
theorem c_X12_takesPayments_b153 {C : zC} {I : Nat → Nat → Int32} {J : Nat → Nat → Int64} {Rr : Nat → Nat → Option Nat} {D : zD} (N : Nat) (v_acts : Int32) (e_v_acts : I 128 67 = v_acts) (v_isBlanchedNow : Int32) (e_v_isBlanchedNow : I 128 83 = v_isBlanchedNow) (v_knownAt : Int32) (e_v_knownAt : I 128 74 = v_knownAt) (v_movedAct : Int32) (e_v_movedAct : I 128 76 = v_movedAct) (v_movedTerm : Int32) (e_v_movedTerm : I 128 77 = v_movedTerm) (v_now : Int32) (e_v_now : I 128 65 = v_now) (v_shireNow : Int32) (e_v_shireNow : I 128 66 = v_shireNow) (v_without : Int32) (e_v_without : I 128 75 = v_without) (v_actKind : (Nat → Int32)) (e_v_actKind : I 176 = v_actKind) (v_actNumber : (Nat → Int32)) (e_v_actNumber : I 179 = v_actNumber) (v_actShire : (Nat → Int32)) (e_v_actShire : I 178 = v_actShire) (v_actTerm : (Nat → Int32)) (e_v_actTerm : I 177 = v_actTerm) (v_cutWorth : (Nat → Int32)) (e_v_cutWorth : I 137 = v_cutWorth) (v_cuts : (Nat → Int32)) (e_v_cuts : I 135 = v_cuts) (v_mates : (Nat → Int32)) (e_v_mates : I 141 = v_mates) (v_pence : (Nat → Int32)) (e_v_pence : I 138 = v_pence) (v_voidAt : (Nat → Int32)) (e_v_voidAt : I 180 = v_voidAt) (y_v_debt : Int64) (y_v_paid : Int64) (E : zE C RX12 cX12_takesPayments 4 none ({ frames := 2, cells := 0, slots := 0, locals := 44 } : Room)) (hQ : C.Q = zQv C ({ frames := 2, cells := 0, slots := 0, locals := 44 } : Room) (I, (va_up J 128 (va_up (va_up (J 128) 63 y_v_debt) 64 y_v_paid)), Rr, D)) (x1 : Int32) (x2 : Int64) (v_debt : Int64) (v_paid : Int64) (self : Int32 → Int64 → Int64 → Option R_pM_takesPayments) (ih : ∀ (x1 : Int32) (v_debt : Int64) (v_paid : Int64), self x1 v_debt v_paid = some (y_v_debt, y_v_paid) → zB C (0, 0) 2 [(0, .ref (C.X.1 + 128)), (1, .int x1)] [] (I, (va_up J 128 (va_up (va_up (J 128) 63 v_debt) 64 v_paid)), Rr, D)) (h : pM_takesPayments_b153 N v_acts v_isBlanchedNow v_knownAt v_movedAct v_movedTerm v_now v_shireNow v_without v_actKind v_actNumber v_actShire v_actTerm v_cutWorth v_cuts v_mates v_pence v_voidAt self x1 x2 v_debt v_paid = some (y_v_debt, y_v_paid)) : zB C (0, 0) 153 [(0, .ref (C.X.1 + 128)), (1, .int x1), (2, .long x2)] [] (I, (va_up J 128 (va_up (va_up (J 128) 63 v_debt) 64 v_paid)), Rr, D) := by
  refine zb_aload_n E dX12_takesPayments_153 0 rfl rfl ?_
  refine zb_dup E dX12_takesPayments_154 rfl ?_
  refine zb_get E 128 (by decide) (zF_128 C.X) rfl zin12 63 (by decide) zw_1231 (v := .long v_debt) rfl dX12_takesPayments_155 ?_
  refine zb_lload_n E dX12_takesPayments_158 2 rfl rfl ?_
  refine zb_lsub E dX12_takesPayments_159 ?_
  refine zb_put E 128 (by decide) (zF_128 C.X) rfl zin12 63 (by decide) zw_1231 tyX12 tyX12_ok nmX12 rfl rfl rfl (I2 := I) (J2 := (va_up J 128 (va_up (va_up (J 128) 63 (v_debt - x2)) 64 v_paid))) ((zset12_63 C.X (I 128) (va_up (va_up (J 128) 63 v_debt) 64 v_paid) (v_debt - x2)).trans (congrArg (fun g => zf12 C.X (I 128) g) (zn2 (by decide : (64 : Nat) ≠ 63)))) (by rw [zflen12]; decide) (fun j hj => ⟨rfl, (zup_n hj).trans (zup_n hj).symm⟩) dX12_takesPayments_160 ?_
  refine zb_aload_n E dX12_takesPayments_163 0 rfl rfl ?_
  refine zb_dup E dX12_takesPayments_164 rfl ?_
  refine zb_get E 128 (by decide) (zF_128 C.X) rfl zin12 64 (by decide) zw_1232 (v := .long v_paid) rfl dX12_takesPayments_165 ?_
  refine zb_lload_n E dX12_takesPayments_168 2 rfl rfl ?_
  refine zb_ladd E dX12_takesPayments_169 ?_
  refine zb_put E 128 (by decide) (zF_128 C.X) rfl zin12 64 (by decide) zw_1232 tyX12 tyX12_ok nmX12 rfl rfl rfl (I2 := I) (J2 := (va_up J 128 (va_up (va_up (J 128) 63 (v_debt - x2)) 64 (v_paid + x2)))) ((zset12_64 C.X (I 128) (va_up (va_up (J 128) 63 (v_debt - x2)) 64 v_paid) (v_paid + x2)).trans (congrArg (fun g => zf12 C.X (I 128) g) zn1)) (by rw [zflen12]; decide) (fun j hj => ⟨rfl, (zup_n hj).trans (zup_n hj).symm⟩) dX12_takesPayments_170 ?_
  refine zb_iinc E dX12_takesPayments_173 1 rfl (v := (x1 + 1)) rfl (by decide) (lv2 := [(1, .int (x1 + 1)), (0, .ref (C.X.1 + 128)), (2, .long x2)]) rfl ?_
  refine zb_goto E dX12_takesPayments_176 (tgt := 2) rfl ?_
  refine zb_sub [1, 0] rfl ?_
  exact ih (x1 + 1) (v_debt - x2) (v_paid + x2) h
theorem c_X12_takesPayments_b121 {C : zC} {I : Nat → Nat → Int32} {J : Nat → Nat → Int64} {Rr : Nat → Nat → Option Nat} {D : zD} (N : Nat) (v_acts : Int32) (e_v_acts : I 128 67 = v_acts) (v_isBlanchedNow : Int32) (e_v_isBlanchedNow : I 128 83 = v_isBlanchedNow) (v_knownAt : Int32) (e_v_knownAt : I 128 74 = v_knownAt) (v_movedAct : Int32) (e_v_movedAct : I 128 76 = v_movedAct) (v_movedTerm : Int32) (e_v_movedTerm : I 128 77 = v_movedTerm) (v_now : Int32) (e_v_now : I 128 65 = v_now) (v_shireNow : Int32) (e_v_shireNow : I 128 66 = v_shireNow) (v_without : Int32) (e_v_without : I 128 75 = v_without) (v_actKind : (Nat → Int32)) (e_v_actKind : I 176 = v_actKind) (v_actNumber : (Nat → Int32)) (e_v_actNumber : I 179 = v_actNumber) (v_actShire : (Nat → Int32)) (e_v_actShire : I 178 = v_actShire) (v_actTerm : (Nat → Int32)) (e_v_actTerm : I 177 = v_actTerm) (v_cutWorth : (Nat → Int32)) (e_v_cutWorth : I 137 = v_cutWorth) (v_cuts : (Nat → Int32)) (e_v_cuts : I 135 = v_cuts) (v_mates : (Nat → Int32)) (e_v_mates : I 141 = v_mates) (v_pence : (Nat → Int32)) (e_v_pence : I 138 = v_pence) (v_voidAt : (Nat → Int32)) (e_v_voidAt : I 180 = v_voidAt) (y_v_debt : Int64) (y_v_paid : Int64) (E : zE C RX12 cX12_takesPayments 4 none ({ frames := 2, cells := 0, slots := 0, locals := 44 } : Room)) (hQ : C.Q = zQv C ({ frames := 2, cells := 0, slots := 0, locals := 44 } : Room) (I, (va_up J 128 (va_up (va_up (J 128) 63 y_v_debt) 64 y_v_paid)), Rr, D)) (x1 : Int32) (s0 : Int64) (s1 : Int64) (v_debt : Int64) (v_paid : Int64) (self : Int32 → Int64 → Int64 → Option R_pM_takesPayments) (ih : ∀ (x1 : Int32) (v_debt : Int64) (v_paid : Int64), self x1 v_debt v_paid = some (y_v_debt, y_v_paid) → zB C (0, 0) 2 [(0, .ref (C.X.1 + 128)), (1, .int x1)] [] (I, (va_up J 128 (va_up (va_up (J 128) 63 v_debt) 64 v_paid)), Rr, D)) (h : pM_takesPayments_b121 N v_acts v_isBlanchedNow v_knownAt v_movedAct v_movedTerm v_now v_shireNow v_without v_actKind v_actNumber v_actShire v_actTerm v_cutWorth v_cuts v_mates v_pence v_voidAt self x1 s0 s1 v_debt v_paid = some (y_v_debt, y_v_paid)) : zB C (0, 0) 121 [(0, .ref (C.X.1 + 128)), (1, .int x1)] [.long s1, .long s0] (I, (va_up J 128 (va_up (va_up (J 128) 63 v_debt) 64 v_paid)), Rr, D) := by
  refine zb_lsub E dX12_takesPayments_121 ?_
  refine zb_lstore_n E dX12_takesPayments_122 rfl (by decide) (lv2 := [(2, .long (s0 - s1)), (0, .ref (C.X.1 + 128)), (1, .int x1)]) rfl ?_
  refine zb_goto E dX12_takesPayments_123 (tgt := 153) rfl ?_
  refine zb_sub [1, 2, 0] rfl ?_
  exact c_X12_takesPayments_b153 N v_acts e_v_acts v_isBlanchedNow e_v_isBlanchedNow v_knownAt e_v_knownAt v_movedAct e_v_movedAct v_movedTerm e_v_movedTerm v_now e_v_now v_shireNow e_v_shireNow v_without e_v_without v_actKind e_v_actKind v_actNumber e_v_actNumber v_actShire e_v_actShire v_actTerm e_v_actTerm v_cutWorth e_v_cutWorth v_cuts e_v_cuts v_mates e_v_mates v_pence e_v_pence v_voidAt e_v_voidAt y_v_debt y_v_paid E hQ x1 (s0 - s1) v_debt v_paid self ih h
theorem c_X12_takesPayments_b60 {C : zC} {I : Nat → Nat → Int32} {J : Nat → Nat → Int64} {Rr : Nat → Nat → Option Nat} {D : zD} (N : Nat) (v_acts : Int32) (e_v_acts : I 128 67 = v_acts) (v_isBlanchedNow : Int32) (e_v_isBlanchedNow : I 128 83 = v_isBlanchedNow) (v_knownAt : Int32) (e_v_knownAt : I 128 74 = v_knownAt) (v_movedAct : Int32) (e_v_movedAct : I 128 76 = v_movedAct) (v_movedTerm : Int32) (e_v_movedTerm : I 128 77 = v_movedTerm) (v_now : Int32) (e_v_now : I 128 65 = v_now) (v_shireNow : Int32) (e_v_shireNow : I 128 66 = v_shireNow) (v_without : Int32) (e_v_without : I 128 75 = v_without) (v_actKind : (Nat → Int32)) (e_v_actKind : I 176 = v_actKind) (v_actNumber : (Nat → Int32)) (e_v_actNumber : I 179 = v_actNumber) (v_actShire : (Nat → Int32)) (e_v_actShire : I 178 = v_actShire) (v_actTerm : (Nat → Int32)) (e_v_actTerm : I 177 = v_actTerm) (v_cutWorth : (Nat → Int32)) (e_v_cutWorth : I 137 = v_cutWorth) (v_cuts : (Nat → Int32)) (e_v_cuts : I 135 = v_cuts) (v_mates : (Nat → Int32)) (e_v_mates : I 141 = v_mates) (v_pence : (Nat → Int32)) (e_v_pence : I 138 = v_pence) (v_voidAt : (Nat → Int32)) (e_v_voidAt : I 180 = v_voidAt) (y_v_debt : Int64) (y_v_paid : Int64) (E : zE C RX12 cX12_takesPayments 4 none ({ frames := 2, cells := 0, slots := 0, locals := 44 } : Room)) (hQ : C.Q = zQv C ({ frames := 2, cells := 0, slots := 0, locals := 44 } : Room) (I, (va_up J 128 (va_up (va_up (J 128) 63 y_v_debt) 64 y_v_paid)), Rr, D)) (x1 : Int32) (s0 : Int32) (v_debt : Int64) (v_paid : Int64) (self : Int32 → Int64 → Int64 → Option R_pM_takesPayments) (ih : ∀ (x1 : Int32) (v_debt : Int64) (v_paid : Int64), self x1 v_debt v_paid = some (y_v_debt, y_v_paid) → zB C (0, 0) 2 [(0, .ref (C.X.1 + 128)), (1, .int x1)] [] (I, (va_up J 128 (va_up (va_up (J 128) 63 v_debt) 64 v_paid)), Rr, D)) (h : pM_takesPayments_b60 N v_acts v_isBlanchedNow v_knownAt v_movedAct v_movedTerm v_now v_shireNow v_without v_actKind v_actNumber v_actShire v_actTerm v_cutWorth v_cuts v_mates v_pence v_voidAt self x1 s0 v_debt v_paid = some (y_v_debt, y_v_paid)) : zB C (0, 0) 60 [(0, .ref (C.X.1 + 128)), (1, .int x1)] [.int s0] (I, (va_up J 128 (va_up (va_up (J 128) 63 v_debt) 64 v_paid)), Rr, D) := by
  refine zb_aload_n E dX12_takesPayments_60 0 rfl rfl ?_
  refine zb_get E 128 (by decide) (zF_128 C.X) rfl zin12 65 (by decide) zw_1233 (v := .int v_now) (by exact congrArg (fun z => some (Value.int z)) e_v_now) dX12_takesPayments_61 ?_
  refine zb_icmp_eq E dX12_takesPayments_64 (tgt := 70) rfl (fun hc => ?_) (fun hc => ?_)
  · have h := if_t h hc
    refine zb_lconst E dX12_takesPayments_70 (v := 0) rfl ?_
    refine zb_lstore_n E dX12_takesPayments_71 rfl (by decide) (lv2 := [(2, .long 0), (0, .ref (C.X.1 + 128)), (1, .int x1)]) rfl ?_
    refine zb_aload_n E dX12_takesPayments_72 1 rfl rfl ?_
    refine zb_get E 128 (by decide) (zF_128 C.X) rfl zin12 68 (by decide) zw_1236 (v := .ref (C.X.1 + 176)) rfl dX12_takesPayments_73 ?_
    refine zb_iload_n E dX12_takesPayments_76 2 rfl rfl ?_
    obtain ⟨g4, h⟩ := gd_s h
    refine zb_iald E 176 (by decide) zF_176 (f := v_actKind) (by exact e_v_actKind) (ib_in g4) dX12_takesPayments_77 ?_
    refine zb_iconst E dX12_takesPayments_78 (v := 2) rfl ?_
    refine zb_icmp_ne E dX12_takesPayments_79 (tgt := 126) rfl (fun hc => ?_) (fun hc => ?_)
    · have h := if_f h hc
      refine zb_aload_n E dX12_takesPayments_126 1 rfl rfl ?_
      refine zb_get E 128 (by decide) (zF_128 C.X) rfl zin12 15 (by decide) zw_1183 (v := .ref (C.X.1 + 141)) rfl dX12_takesPayments_127 ?_
      refine zb_aload_n E dX12_takesPayments_130 1 rfl rfl ?_
      refine zb_get E 128 (by decide) (zF_128 C.X) rfl zin12 71 (by decide) zw_1239 (v := .ref (C.X.1 + 179)) rfl dX12_takesPayments_131 ?_
      refine zb_iload_n E dX12_takesPayments_134 2 rfl rfl ?_
      refine zb_iald E 179 (by decide) zF_179 (f := v_actNumber) (by exact e_v_actNumber) (ib_in g4) dX12_takesPayments_135 ?_
      obtain ⟨g5, h⟩ := gd_s h
      refine zb_iald E 141 (by decide) zF_141 (f := v_mates) (by exact e_v_mates) (ib_in g5) dX12_takesPayments_136 ?_
      refine zb_iconst E dX12_takesPayments_137 (v := (-1)) rfl ?_
      refine zb_icmp_eq E dX12_takesPayments_138 (tgt := 153) rfl (fun hc => ?_) (fun hc => ?_)
      · have h := if_t h hc
        refine zb_sub [1, 2, 0] rfl ?_
        exact c_X12_takesPayments_b153 N v_acts e_v_acts v_isBlanchedNow e_v_isBlanchedNow v_knownAt e_v_knownAt v_movedAct e_v_movedAct v_movedTerm e_v_movedTerm v_now e_v_now v_shireNow e_v_shireNow v_without e_v_without v_actKind e_v_actKind v_actNumber e_v_actNumber v_actShire e_v_actShire v_actTerm e_v_actTerm v_cutWorth e_v_cutWorth v_cuts e_v_cuts v_mates e_v_mates v_pence e_v_pence v_voidAt e_v_voidAt y_v_debt y_v_paid E hQ x1 0 v_debt v_paid self ih h
      · have h := if_f h hc
        refine zb_aload_n E dX12_takesPayments_141 1 rfl rfl ?_
        refine zb_aload_n E dX12_takesPayments_142 1 rfl rfl ?_
        refine zb_get E 128 (by decide) (zF_128 C.X) rfl zin12 71 (by decide) zw_1239 (v := .ref (C.X.1 + 179)) rfl dX12_takesPayments_143 ?_
        refine zb_iload_n E dX12_takesPayments_146 2 rfl rfl ?_
        refine zb_iald E 179 (by decide) zF_179 (f := v_actNumber) (by exact e_v_actNumber) (ib_in g4) dX12_takesPayments_147 ?_
        obtain ⟨rc6, hc_148, h⟩ := bd1_s h
        refine zb_cVi E [.int (v_actNumber (ix x1))] 128 zy_X12_sumOf zw_1505 (by decide) (zF_128 _ _ _ _) rfl (c_X12_sumOf v_cutWorth (by exact e_v_cutWorth) v_cuts (by exact e_v_cuts) v_pence (by exact e_v_pence) hc_148) (by decide) rfl rfl (by first | decide | simp [Value.category]) dX12_takesPayments_148 (cs2 := (0, 0)) rfl ?_
        refine zb_i2l E dX12_takesPayments_151 ?_
        refine zb_lstore_n E dX12_takesPayments_152 rfl (by decide) (lv2 := [(2, .long (i2l rc6)), (0, .ref (C.X.1 + 128)), (1, .int x1)]) rfl ?_
        refine zb_sub [1, 2, 0] rfl ?_
        exact c_X12_takesPayments_b153 N v_acts e_v_acts v_isBlanchedNow e_v_isBlanchedNow v_knownAt e_v_knownAt v_movedAct e_v_movedAct v_movedTerm e_v_movedTerm v_now e_v_now v_shireNow e_v_shireNow v_without e_v_without v_actKind e_v_actKind v_actNumber e_v_actNumber v_actShire e_v_actShire v_actTerm e_v_actTerm v_cutWorth e_v_cutWorth v_cuts e_v_cuts v_mates e_v_mates v_pence e_v_pence v_voidAt e_v_voidAt y_v_debt y_v_paid E hQ x1 (i2l rc6) v_debt v_paid self ih h
    · have h := if_t h hc
      refine zb_aload_n E dX12_takesPayments_82 1 rfl rfl ?_
      refine zb_get E 128 (by decide) (zF_128 C.X) rfl zin12 71 (by decide) zw_1239 (v := .ref (C.X.1 + 179)) rfl dX12_takesPayments_83 ?_
      refine zb_iload_n E dX12_takesPayments_86 2 rfl rfl ?_
      refine zb_iald E 179 (by decide) zF_179 (f := v_actNumber) (by exact e_v_actNumber) (ib_in g4) dX12_takesPayments_87 ?_
      refine zb_i2l E dX12_takesPayments_88 ?_
      refine zb_aload_n E dX12_takesPayments_89 1 rfl rfl ?_
      refine zb_get E 128 (by decide) (zF_128 C.X) rfl zin12 83 (by decide) zw_1251 (v := .int v_isBlanchedNow) (by exact congrArg (fun z => some (Value.int z)) e_v_isBlanchedNow) dX12_takesPayments_90 ?_
      refine zb_if_eq E dX12_takesPayments_93 (tgt := 120) rfl (fun hc => ?_) (fun hc => ?_)
      · have h := if_t h hc
        refine zb_lconst E dX12_takesPayments_120 (v := 0) rfl ?_
        refine zb_sub [1, 2] rfl ?_
        exact c_X12_takesPayments_b121 N v_acts e_v_acts v_isBlanchedNow e_v_isBlanchedNow v_knownAt e_v_knownAt v_movedAct e_v_movedAct v_movedTerm e_v_movedTerm v_now e_v_now v_shireNow e_v_shireNow v_without e_v_without v_actKind e_v_actKind v_actNumber e_v_actNumber v_actShire e_v_actShire v_actTerm e_v_actTerm v_cutWorth e_v_cutWorth v_cuts e_v_cuts v_mates e_v_mates v_pence e_v_pence v_voidAt e_v_voidAt y_v_debt y_v_paid E hQ x1 (i2l (v_actNumber (ix x1))) 0 v_debt v_paid self ih h
      · have h := if_f h hc
        refine zb_aload_n E dX12_takesPayments_96 1 rfl rfl ?_
        refine zb_get E 128 (by decide) (zF_128 C.X) rfl zin12 71 (by decide) zw_1239 (v := .ref (C.X.1 + 179)) rfl dX12_takesPayments_97 ?_
        refine zb_iload_n E dX12_takesPayments_100 2 rfl rfl ?_
        refine zb_iald E 179 (by decide) zF_179 (f := v_actNumber) (by exact e_v_actNumber) (ib_in g4) dX12_takesPayments_101 ?_
        refine zb_i2l E dX12_takesPayments_102 ?_
        refine zb_aload_n E dX12_takesPayments_103 1 rfl rfl ?_
        refine zb_aload_n E dX12_takesPayments_104 1 rfl rfl ?_
        refine zb_get E 128 (by decide) (zF_128 C.X) rfl zin12 65 (by decide) zw_1233 (v := .int v_now) (by exact congrArg (fun z => some (Value.int z)) e_v_now) dX12_takesPayments_105 ?_
        obtain ⟨rc7, hc_108, h⟩ := bd1_s h
        refine zb_cVi E [.int v_now] 128 zy_X12_fireOf zw_1788 (by decide) (zF_128 _ _ _ _) rfl (c_X12_fireOf v_acts (by exact e_v_acts) v_knownAt (by exact e_v_knownAt) v_without (by exact e_v_without) v_actKind (by exact e_v_actKind) v_actNumber (by exact e_v_actNumber) v_actTerm (by exact e_v_actTerm) v_voidAt (by exact e_v_voidAt) hc_108) (by decide) rfl rfl (by first | decide | simp [Value.category]) dX12_takesPayments_108 (cs2 := (0, 0)) rfl ?_
        refine zb_i2l E dX12_takesPayments_111 ?_
        refine zb_lmul E dX12_takesPayments_112 ?_
        refine zb_ldc2 E dX12_takesPayments_113 (v := 240) zw_1491 ?_
        refine zb_ldiv E dX12_takesPayments_116 (by decide) ?_
        refine zb_goto E dX12_takesPayments_117 (tgt := 121) rfl ?_
        refine zb_sub [1, 2] rfl ?_
        exact c_X12_takesPayments_b121 N v_acts e_v_acts v_isBlanchedNow e_v_isBlanchedNow v_knownAt e_v_knownAt v_movedAct e_v_movedAct v_movedTerm e_v_movedTerm v_now e_v_now v_shireNow e_v_shireNow v_without e_v_without v_actKind e_v_actKind v_actNumber e_v_actNumber v_actShire e_v_actShire v_actTerm e_v_actTerm v_cutWorth e_v_cutWorth v_cuts e_v_cuts v_mates e_v_mates v_pence e_v_pence v_voidAt e_v_voidAt y_v_debt y_v_paid E hQ x1 (i2l (v_actNumber (ix x1))) (((i2l (v_actNumber (ix x1))) * (i2l rc7)) / 240) v_debt v_paid self ih h
  · have h := if_f h hc
    refine zb_goto E dX12_takesPayments_67 (tgt := 173) rfl ?_
    refine zb_iinc E dX12_takesPayments_173 1 rfl (v := (x1 + 1)) rfl (by decide) (lv2 := [(1, .int (x1 + 1)), (0, .ref (C.X.1 + 128))]) rfl ?_
    refine zb_goto E dX12_takesPayments_176 (tgt := 2) rfl ?_
    refine zb_sub [1, 0] rfl ?_
    exact ih (x1 + 1) v_debt v_paid h
theorem c_X12_takesPayments_b2 {C : zC} {I : Nat → Nat → Int32} {J : Nat → Nat → Int64} {Rr : Nat → Nat → Option Nat} {D : zD} (N : Nat) (v_acts : Int32) (e_v_acts : I 128 67 = v_acts) (v_isBlanchedNow : Int32) (e_v_isBlanchedNow : I 128 83 = v_isBlanchedNow) (v_knownAt : Int32) (e_v_knownAt : I 128 74 = v_knownAt) (v_movedAct : Int32) (e_v_movedAct : I 128 76 = v_movedAct) (v_movedTerm : Int32) (e_v_movedTerm : I 128 77 = v_movedTerm) (v_now : Int32) (e_v_now : I 128 65 = v_now) (v_shireNow : Int32) (e_v_shireNow : I 128 66 = v_shireNow) (v_without : Int32) (e_v_without : I 128 75 = v_without) (v_actKind : (Nat → Int32)) (e_v_actKind : I 176 = v_actKind) (v_actNumber : (Nat → Int32)) (e_v_actNumber : I 179 = v_actNumber) (v_actShire : (Nat → Int32)) (e_v_actShire : I 178 = v_actShire) (v_actTerm : (Nat → Int32)) (e_v_actTerm : I 177 = v_actTerm) (v_cutWorth : (Nat → Int32)) (e_v_cutWorth : I 137 = v_cutWorth) (v_cuts : (Nat → Int32)) (e_v_cuts : I 135 = v_cuts) (v_mates : (Nat → Int32)) (e_v_mates : I 141 = v_mates) (v_pence : (Nat → Int32)) (e_v_pence : I 138 = v_pence) (v_voidAt : (Nat → Int32)) (e_v_voidAt : I 180 = v_voidAt) (y_v_debt : Int64) (y_v_paid : Int64) (E : zE C RX12 cX12_takesPayments 4 none ({ frames := 2, cells := 0, slots := 0, locals := 44 } : Room)) (hQ : C.Q = zQv C ({ frames := 2, cells := 0, slots := 0, locals := 44 } : Room) (I, (va_up J 128 (va_up (va_up (J 128) 63 y_v_debt) 64 y_v_paid)), Rr, D))  : ∀ (n9 : Nat) (x1 : Int32) (v_debt : Int64) (v_paid : Int64), pM_takesPayments_b2 N v_acts v_isBlanchedNow v_knownAt v_movedAct v_movedTerm v_now v_shireNow v_without v_actKind v_actNumber v_actShire v_actTerm v_cutWorth v_cuts v_mates v_pence v_voidAt n9 x1 v_debt v_paid = some (y_v_debt, y_v_paid) → zB C (0, 0) 2 [(0, .ref (C.X.1 + 128)), (1, .int x1)] [] (I, (va_up J 128 (va_up (va_up (J 128) 63 v_debt) 64 v_paid)), Rr, D) := by
  refine zlp3_ind (P := fun (x1 : Int32) (v_debt : Int64) (v_paid : Int64) => zB C (0, 0) 2 [(0, .ref (C.X.1 + 128)), (1, .int x1)] [] (I, (va_up J 128 (va_up (va_up (J 128) 63 v_debt) 64 v_paid)), Rr, D)) (fun self ih => ?_)
  intro x1 v_debt v_paid h
  refine zb_iload_n E dX12_takesPayments_2 1 rfl rfl ?_
  refine zb_aload_n E dX12_takesPayments_3 0 rfl rfl ?_
  refine zb_get E 128 (by decide) (zF_128 C.X) rfl zin12 67 (by decide) zw_1235 (v := .int v_acts) (by exact congrArg (fun z => some (Value.int z)) e_v_acts) dX12_takesPayments_4 ?_
  refine zb_icmp_gt E dX12_takesPayments_7 (tgt := 179) rfl (fun hc => ?_) (fun hc => ?_)
  · have h := if_t h hc
    cases h
    exact zb_vret E hQ rfl (by decide) dX12_takesPayments_179
  · have h := if_f h hc
    refine zb_aload_n E dX12_takesPayments_10 0 rfl rfl ?_
    refine zb_iload_n E dX12_takesPayments_11 1 rfl rfl ?_
    obtain ⟨rc1, hc_12, h⟩ := bd1_s h
    refine zb_cVi E [.int x1] 128 zy_X12_isPayment zw_1696 (by decide) (zF_128 _ _ _ _) rfl (c_X12_isPayment v_actKind (by exact e_v_actKind) hc_12) (by decide) rfl rfl (by first | decide | simp [Value.category]) dX12_takesPayments_12 (cs2 := (0, 0)) rfl ?_
    refine zb_if_eq E dX12_takesPayments_15 (tgt := 173) rfl (fun hc => ?_) (fun hc => ?_)
    · have h := if_t h hc
      refine zb_iinc E dX12_takesPayments_173 1 rfl (v := (x1 + 1)) rfl (by decide) (lv2 := [(1, .int (x1 + 1)), (0, .ref (C.X.1 + 128))]) rfl ?_
      refine zb_goto E dX12_takesPayments_176 (tgt := 2) rfl ?_
      refine zb_sub [1, 0] rfl ?_
      exact ih (x1 + 1) v_debt v_paid h
    · have h := if_f h hc
      refine zb_aload_n E dX12_takesPayments_18 0 rfl rfl ?_
      refine zb_iload_n E dX12_takesPayments_19 1 rfl rfl ?_
      obtain ⟨rc2, hc_20, h⟩ := bd1_s h
      refine zb_cVi E [.int x1] 128 zy_X12_isKnown zw_1739 (by decide) (zF_128 _ _ _ _) rfl (c_X12_isKnown v_knownAt (by exact e_v_knownAt) v_without (by exact e_v_without) v_voidAt (by exact e_v_voidAt) hc_20) (by decide) rfl rfl (by first | decide | simp [Value.category]) dX12_takesPayments_20 (cs2 := (0, 0)) rfl ?_
      refine zb_if_eq E dX12_takesPayments_23 (tgt := 173) rfl (fun hc => ?_) (fun hc => ?_)
      · have h := if_t h hc
        refine zb_iinc E dX12_takesPayments_173 1 rfl (v := (x1 + 1)) rfl (by decide) (lv2 := [(1, .int (x1 + 1)), (0, .ref (C.X.1 + 128))]) rfl ?_
        refine zb_goto E dX12_takesPayments_176 (tgt := 2) rfl ?_
        refine zb_sub [1, 0] rfl ?_
        exact ih (x1 + 1) v_debt v_paid h
      · have h := if_f h hc
        refine zb_aload_n E dX12_takesPayments_26 0 rfl rfl ?_
        refine zb_get E 128 (by decide) (zF_128 C.X) rfl zin12 70 (by decide) zw_1238 (v := .ref (C.X.1 + 178)) rfl dX12_takesPayments_27 ?_
        refine zb_iload_n E dX12_takesPayments_30 1 rfl rfl ?_
        obtain ⟨g3, h⟩ := gd_s h
        refine zb_iald E 178 (by decide) zF_178 (f := v_actShire) (by exact e_v_actShire) (ib_in g3) dX12_takesPayments_31 ?_
        refine zb_aload_n E dX12_takesPayments_32 0 rfl rfl ?_
        refine zb_get E 128 (by decide) (zF_128 C.X) rfl zin12 66 (by decide) zw_1234 (v := .int v_shireNow) (by exact congrArg (fun z => some (Value.int z)) e_v_shireNow) dX12_takesPayments_33 ?_
        refine zb_icmp_ne E dX12_takesPayments_36 (tgt := 173) rfl (fun hc => ?_) (fun hc => ?_)
        · have h := if_f h hc
          refine zb_iinc E dX12_takesPayments_173 1 rfl (v := (x1 + 1)) rfl (by decide) (lv2 := [(1, .int (x1 + 1)), (0, .ref (C.X.1 + 128))]) rfl ?_
          refine zb_goto E dX12_takesPayments_176 (tgt := 2) rfl ?_
          refine zb_sub [1, 0] rfl ?_
          exact ih (x1 + 1) v_debt v_paid h
        · have h := if_t h hc
          refine zb_iload_n E dX12_takesPayments_39 1 rfl rfl ?_
          refine zb_aload_n E dX12_takesPayments_40 0 rfl rfl ?_
          refine zb_get E 128 (by decide) (zF_128 C.X) rfl zin12 76 (by decide) zw_1244 (v := .int v_movedAct) (by exact congrArg (fun z => some (Value.int z)) e_v_movedAct) dX12_takesPayments_41 ?_
          refine zb_icmp_ne E dX12_takesPayments_44 (tgt := 54) rfl (fun hc => ?_) (fun hc => ?_)
          · have h := if_f h hc
            refine zb_aload_n E dX12_takesPayments_54 0 rfl rfl ?_
            refine zb_get E 128 (by decide) (zF_128 C.X) rfl zin12 69 (by decide) zw_1237 (v := .ref (C.X.1 + 177)) rfl dX12_takesPayments_55 ?_
            refine zb_iload_n E dX12_takesPayments_58 1 rfl rfl ?_
            refine zb_iald E 177 (by decide) zF_177 (f := v_actTerm) (by exact e_v_actTerm) (ib_in g3) dX12_takesPayments_59 ?_
            exact c_X12_takesPayments_b60 N v_acts e_v_acts v_isBlanchedNow e_v_isBlanchedNow v_knownAt e_v_knownAt v_movedAct e_v_movedAct v_movedTerm e_v_movedTerm v_now e_v_now v_shireNow e_v_shireNow v_without e_v_without v_actKind e_v_actKind v_actNumber e_v_actNumber v_actShire e_v_actShire v_actTerm e_v_actTerm v_cutWorth e_v_cutWorth v_cuts e_v_cuts v_mates e_v_mates v_pence e_v_pence v_voidAt e_v_voidAt y_v_debt y_v_paid E hQ x1 (v_actTerm (ix x1)) v_debt v_paid self ih h
          · have h := if_t h hc
            refine zb_aload_n E dX12_takesPayments_47 0 rfl rfl ?_
            refine zb_get E 128 (by decide) (zF_128 C.X) rfl zin12 77 (by decide) zw_1245 (v := .int v_movedTerm) (by exact congrArg (fun z => some (Value.int z)) e_v_movedTerm) dX12_takesPayments_48 ?_
            refine zb_goto E dX12_takesPayments_51 (tgt := 60) rfl ?_
            exact c_X12_takesPayments_b60 N v_acts e_v_acts v_isBlanchedNow e_v_isBlanchedNow v_knownAt e_v_knownAt v_movedAct e_v_movedAct v_movedTerm e_v_movedTerm v_now e_v_now v_shireNow e_v_shireNow v_without e_v_without v_actKind e_v_actKind v_actNumber e_v_actNumber v_actShire e_v_actShire v_actTerm e_v_actTerm v_cutWorth e_v_cutWorth v_cuts e_v_cuts v_mates e_v_mates v_pence e_v_pence v_voidAt e_v_voidAt y_v_debt y_v_paid E hQ x1 v_movedTerm v_debt v_paid self ih h
theorem c_X12_takesPayments_0 {C : zC} {I : Nat → Nat → Int32} {J : Nat → Nat → Int64} {Rr : Nat → Nat → Option Nat} {D : zD} (N : Nat) (v_acts : Int32) (e_v_acts : I 128 67 = v_acts) (v_isBlanchedNow : Int32) (e_v_isBlanchedNow : I 128 83 = v_isBlanchedNow) (v_knownAt : Int32) (e_v_knownAt : I 128 74 = v_knownAt) (v_movedAct : Int32) (e_v_movedAct : I 128 76 = v_movedAct) (v_movedTerm : Int32) (e_v_movedTerm : I 128 77 = v_movedTerm) (v_now : Int32) (e_v_now : I 128 65 = v_now) (v_shireNow : Int32) (e_v_shireNow : I 128 66 = v_shireNow) (v_without : Int32) (e_v_without : I 128 75 = v_without) (v_actKind : (Nat → Int32)) (e_v_actKind : I 176 = v_actKind) (v_actNumber : (Nat → Int32)) (e_v_actNumber : I 179 = v_actNumber) (v_actShire : (Nat → Int32)) (e_v_actShire : I 178 = v_actShire) (v_actTerm : (Nat → Int32)) (e_v_actTerm : I 177 = v_actTerm) (v_cutWorth : (Nat → Int32)) (e_v_cutWorth : I 137 = v_cutWorth) (v_cuts : (Nat → Int32)) (e_v_cuts : I 135 = v_cuts) (v_mates : (Nat → Int32)) (e_v_mates : I 141 = v_mates) (v_pence : (Nat → Int32)) (e_v_pence : I 138 = v_pence) (v_voidAt : (Nat → Int32)) (e_v_voidAt : I 180 = v_voidAt) (y_v_debt : Int64) (y_v_paid : Int64) (E : zE C RX12 cX12_takesPayments 4 none ({ frames := 2, cells := 0, slots := 0, locals := 44 } : Room)) (hQ : C.Q = zQv C ({ frames := 2, cells := 0, slots := 0, locals := 44 } : Room) (I, (va_up J 128 (va_up (va_up (J 128) 63 y_v_debt) 64 y_v_paid)), Rr, D)) (v_debt : Int64) (v_paid : Int64) (h : pM_takesPayments N v_acts v_debt v_isBlanchedNow v_knownAt v_movedAct v_movedTerm v_now v_paid v_shireNow v_without v_actKind v_actNumber v_actShire v_actTerm v_cutWorth v_cuts v_mates v_pence v_voidAt = some (y_v_debt, y_v_paid)) : zB C (0, 0) 0 [(0, .ref (C.X.1 + 128))] [] (I, (va_up J 128 (va_up (va_up (J 128) 63 v_debt) 64 v_paid)), Rr, D) := by
  refine zb_iconst E dX12_takesPayments_0 (v := 1) rfl ?_
  refine zb_istore_n E dX12_takesPayments_1 rfl (by decide) (lv2 := [(1, .int 1), (0, .ref (C.X.1 + 128))]) rfl ?_
  refine zb_sub [1, 0] rfl ?_
  exact c_X12_takesPayments_b2 N v_acts e_v_acts v_isBlanchedNow e_v_isBlanchedNow v_knownAt e_v_knownAt v_movedAct e_v_movedAct v_movedTerm e_v_movedTerm v_now e_v_now v_shireNow e_v_shireNow v_without e_v_without v_actKind e_v_actKind v_actNumber e_v_actNumber v_actShire e_v_actShire v_actTerm e_v_actTerm v_cutWorth e_v_cutWorth v_cuts e_v_cuts v_mates e_v_mates v_pence e_v_pence v_voidAt e_v_voidAt y_v_debt y_v_paid E hQ _ 1 v_debt v_paid h
theorem c_X12_takesPayments {l : Launch} {X : zX} {I : Nat → Nat → Int32} {J : Nat → Nat → Int64} {Rr : Nat → Nat → Option Nat} {D : zD} {N : Nat} (oJ128 : Nat → Int64) (eoJ128 : J 128 = oJ128) (v_acts : Int32) (e_v_acts : I 128 67 = v_acts) (v_isBlanchedNow : Int32) (e_v_isBlanchedNow : I 128 83 = v_isBlanchedNow) (v_knownAt : Int32) (e_v_knownAt : I 128 74 = v_knownAt) (v_movedAct : Int32) (e_v_movedAct : I 128 76 = v_movedAct) (v_movedTerm : Int32) (e_v_movedTerm : I 128 77 = v_movedTerm) (v_now : Int32) (e_v_now : I 128 65 = v_now) (v_shireNow : Int32) (e_v_shireNow : I 128 66 = v_shireNow) (v_without : Int32) (e_v_without : I 128 75 = v_without) (v_actKind : (Nat → Int32)) (e_v_actKind : I 176 = v_actKind) (v_actNumber : (Nat → Int32)) (e_v_actNumber : I 179 = v_actNumber) (v_actShire : (Nat → Int32)) (e_v_actShire : I 178 = v_actShire) (v_actTerm : (Nat → Int32)) (e_v_actTerm : I 177 = v_actTerm) (v_cutWorth : (Nat → Int32)) (e_v_cutWorth : I 137 = v_cutWorth) (v_cuts : (Nat → Int32)) (e_v_cuts : I 135 = v_cuts) (v_mates : (Nat → Int32)) (e_v_mates : I 141 = v_mates) (v_pence : (Nat → Int32)) (e_v_pence : I 138 = v_pence) (v_voidAt : (Nat → Int32)) (e_v_voidAt : I 180 = v_voidAt) (v_debt : Int64) (e_v_debt : J 128 63 = v_debt) (v_paid : Int64) (e_v_paid : J 128 64 = v_paid) {y_v_debt : Int64} {y_v_paid : Int64} (h : pM_takesPayments N v_acts v_debt v_isBlanchedNow v_knownAt v_movedAct v_movedTerm v_now v_paid v_shireNow v_without v_actKind v_actNumber v_actShire v_actTerm v_cutWorth v_cuts v_mates v_pence v_voidAt = some (y_v_debt, y_v_paid)) : zMv l yX12_takesPayments cX12_takesPayments 4 none ({ frames := 2, cells := 0, slots := 0, locals := 44 } : Room) X [.ref (X.1 + 128)] (I, J, Rr, D) (I, (va_up J 128 (va_up (va_up oJ128 63 y_v_debt) 64 y_v_paid)), Rr, D) := by
  subst eoJ128
  refine zMv.of (by decide) (Nat.le_of_ble_eq_true rfl) (fun C E hl hX hQ => ?_)
  subst hl
  subst hX
  have eI0 : I = I := rfl
  have eJ0 : (va_up J 128 (va_up (va_up (J 128) 63 v_debt) 64 v_paid)) = J := by rw [zup_idE e_v_debt, zup_idE e_v_paid, zup_id]
  refine zb_S (S2 := (I, (va_up J 128 (va_up (va_up (J 128) 63 v_debt) 64 v_paid)), Rr, D)) (zS_eq eI0.symm eJ0.symm) ?_
  exact c_X12_takesPayments_0 N v_acts e_v_acts v_isBlanchedNow e_v_isBlanchedNow v_knownAt e_v_knownAt v_movedAct e_v_movedAct v_movedTerm e_v_movedTerm v_now e_v_now v_shireNow e_v_shireNow v_without e_v_without v_actKind e_v_actKind v_actNumber e_v_actNumber v_actShire e_v_actShire v_actTerm e_v_actTerm v_cutWorth e_v_cutWorth v_cuts e_v_cuts v_mates e_v_mates v_pence e_v_pence v_voidAt e_v_voidAt y_v_debt y_v_paid E hQ v_debt v_paid h
-- ChequeredClothModel.putOff
abbrev R_pM_putOff : Type := Int64
def pM_putOff_b7_F (N : Nat) (a1 : Int32) (v_off : (Nat → Int64)) (self : Int64 → Int32 → Option R_pM_putOff) (x2 : Int64) (x4 : Int32) : Option R_pM_putOff :=
  if 60 ≤ x4 then
    some x2
  else
    gd (ib x4 60) <|
    self (x2 + (v_off (ix x4))) (x4 + 1)
def pM_putOff_b7 (N : Nat) (a1 : Int32) (v_off : (Nat → Int64)) : Nat → Int64 → Int32 → Option R_pM_putOff := zlp2 (pM_putOff_b7_F N a1 v_off)
def pM_putOff (N : Nat) (a1 : Int32) (v_off : (Nat → Int64)) : Option R_pM_putOff :=
  pM_putOff_b7 N a1 v_off N 0 (a1 + 1)
theorem dX12_putOff_0 : decode cX12_putOff 0 = .ok (.lconst 0, 1) := by decide +kernel
theorem dX12_putOff_1 : decode cX12_putOff 1 = .ok (.lstore_n 2, 1) := by decide +kernel
theorem dX12_putOff_2 : decode cX12_putOff 2 = .ok (.iload_n 1, 1) := by decide +kernel
theorem dX12_putOff_3 : decode cX12_putOff 3 = .ok (.iconst 1, 1) := by decide +kernel
theorem dX12_putOff_4 : decode cX12_putOff 4 = .ok (.iadd, 1) := by decide +kernel
theorem dX12_putOff_5 : decode cX12_putOff 5 = .ok (.istore 4, 2) := by decide +kernel
theorem dX12_putOff_7 : decode cX12_putOff 7 = .ok (.iload 4, 2) := by decide +kernel
theorem dX12_putOff_9 : decode cX12_putOff 9 = .ok (.bipush 60, 2) := by decide +kernel
theorem dX12_putOff_11 : decode cX12_putOff 11 = .ok (.if_icmp .ge 19, 3) := by decide +kernel
theorem dX12_putOff_14 : decode cX12_putOff 14 = .ok (.lload_n 2, 1) := by decide +kernel
theorem dX12_putOff_15 : decode cX12_putOff 15 = .ok (.aload_n 0, 1) := by decide +kernel
theorem dX12_putOff_16 : decode cX12_putOff 16 = .ok (.getfield 187, 3) := by decide +kernel
theorem dX12_putOff_19 : decode cX12_putOff 19 = .ok (.iload 4, 2) := by decide +kernel
theorem dX12_putOff_21 : decode cX12_putOff 21 = .ok (.laload, 1) := by decide +kernel
theorem dX12_putOff_22 : decode cX12_putOff 22 = .ok (.ladd, 1) := by decide +kernel
theorem dX12_putOff_23 : decode cX12_putOff 23 = .ok (.lstore_n 2, 1) := by decide +kernel
theorem dX12_putOff_24 : decode cX12_putOff 24 = .ok (.iinc 4 1, 3) := by decide +kernel
theorem dX12_putOff_27 : decode cX12_putOff 27 = .ok (.goto (-20), 3) := by decide +kernel
theorem dX12_putOff_30 : decode cX12_putOff 30 = .ok (.lload_n 2, 1) := by decide +kernel
theorem dX12_putOff_31 : decode cX12_putOff 31 = .ok (.lreturn, 1) := by decide +kernel
theorem zy_X12_putOff : zYv yX12_putOff cX12_putOff 5 (some .long) 1 := ⟨zw_1794, zws_98, zw_12, zw_1795, by decide, by decide, by decide⟩
theorem c_X12_putOff_b7 {C : zC} {I : Nat → Nat → Int32} {J : Nat → Nat → Int64} {Rr : Nat → Nat → Option Nat} {D : zD} (N : Nat) (a1 : Int32) (v_off : (Nat → Int64)) (e_v_off : J 181 = v_off) (rr : Int64) (E : zE C RX12 cX12_putOff 5 (some .long) ({ frames := 0, cells := 0, slots := 0, locals := 0 } : Room)) (hQ : C.Q = zQl C ({ frames := 0, cells := 0, slots := 0, locals := 0 } : Room) rr (I, J, Rr, D))  : ∀ (n9 : Nat) (x2 : Int64) (x4 : Int32), pM_putOff_b7 N a1 v_off n9 x2 x4 = some rr → zB C (0, 0) 7 [(0, .ref (C.X.1 + 128)), (2, .long x2), (4, .int x4)] [] (I, J, Rr, D) := by
  refine zlp2_ind (P := fun (x2 : Int64) (x4 : Int32) => zB C (0, 0) 7 [(0, .ref (C.X.1 + 128)), (2, .long x2), (4, .int x4)] [] (I, J, Rr, D)) (fun self ih => ?_)
  intro x2 x4 h
  refine zb_iload E dX12_putOff_7 2 rfl ?_
  refine zb_bipush E dX12_putOff_9 (v := 60) rfl ?_
  refine zb_icmp_ge E dX12_putOff_11 (tgt := 30) rfl (fun hc => ?_) (fun hc => ?_)
  · have h := if_t h hc
    refine zb_lload_n E dX12_putOff_30 1 rfl rfl ?_
    cases h
    exact zb_lret E hQ rfl (by decide) dX12_putOff_31
  · have h := if_f h hc
    refine zb_lload_n E dX12_putOff_14 1 rfl rfl ?_
    refine zb_aload_n E dX12_putOff_15 0 rfl rfl ?_
    refine zb_get E 128 (by decide) (zF_128 C.X) rfl zin12 78 (by decide) zw_1246 (v := .ref (C.X.1 + 181)) rfl dX12_putOff_16 ?_
    refine zb_iload E dX12_putOff_19 2 rfl ?_
    obtain ⟨g1, h⟩ := gd_s h
    refine zb_lald E 181 (by decide) zF_181 (f := v_off) (by exact e_v_off) (ib_in g1) dX12_putOff_21 ?_
    refine zb_ladd E dX12_putOff_22 ?_
    refine zb_lstore_n E dX12_putOff_23 rfl (by decide) (lv2 := [(2, .long (x2 + (v_off (ix x4)))), (0, .ref (C.X.1 + 128)), (4, .int x4)]) rfl ?_
    refine zb_iinc E dX12_putOff_24 2 rfl (v := (x4 + 1)) rfl (by decide) (lv2 := [(4, .int (x4 + 1)), (2, .long (x2 + (v_off (ix x4)))), (0, .ref (C.X.1 + 128))]) rfl ?_
    refine zb_goto E dX12_putOff_27 (tgt := 7) rfl ?_
    refine zb_sub [2, 1, 0] rfl ?_
    exact ih (x2 + (v_off (ix x4))) (x4 + 1) h
theorem c_X12_putOff_0 {C : zC} {I : Nat → Nat → Int32} {J : Nat → Nat → Int64} {Rr : Nat → Nat → Option Nat} {D : zD} (N : Nat) (a1 : Int32) (v_off : (Nat → Int64)) (e_v_off : J 181 = v_off) (rr : Int64) (E : zE C RX12 cX12_putOff 5 (some .long) ({ frames := 0, cells := 0, slots := 0, locals := 0 } : Room)) (hQ : C.Q = zQl C ({ frames := 0, cells := 0, slots := 0, locals := 0 } : Room) rr (I, J, Rr, D)) (h : pM_putOff N a1 v_off = some rr) : zB C (0, 0) 0 [(0, .ref (C.X.1 + 128)), (1, .int a1)] [] (I, J, Rr, D) := by
  refine zb_lconst E dX12_putOff_0 (v := 0) rfl ?_
  refine zb_lstore_n E dX12_putOff_1 rfl (by decide) (lv2 := [(2, .long 0), (0, .ref (C.X.1 + 128)), (1, .int a1)]) rfl ?_
  refine zb_iload_n E dX12_putOff_2 2 rfl rfl ?_
  refine zb_iconst E dX12_putOff_3 (v := 1) rfl ?_
  refine zb_iadd E dX12_putOff_4 ?_
  refine zb_istore E dX12_putOff_5 (by decide) (lv2 := [(4, .int (a1 + 1)), (2, .long 0), (0, .ref (C.X.1 + 128)), (1, .int a1)]) rfl ?_
  refine zb_sub [2, 1, 0] rfl ?_
  exact c_X12_putOff_b7 N a1 v_off e_v_off rr E hQ _ 0 (a1 + 1) h
theorem c_X12_putOff {l : Launch} {X : zX} {I : Nat → Nat → Int32} {J : Nat → Nat → Int64} {Rr : Nat → Nat → Option Nat} {D : zD} {N : Nat} {a1 : Int32} (v_off : (Nat → Int64)) (e_v_off : J 181 = v_off) {rr : Int64} (h : pM_putOff N a1 v_off = some rr) : zMl l yX12_putOff cX12_putOff 5 (some .long) ({ frames := 0, cells := 0, slots := 0, locals := 0 } : Room) X [.ref (X.1 + 128), .int a1] (I, J, Rr, D) rr (I, J, Rr, D) := by
  refine zMl.of (by decide) (Nat.le_of_ble_eq_true rfl) (fun C E hl hX hQ => ?_)
  subst hl
  subst hX
  have eI0 : I = I := rfl
  have eJ0 : J = J := rfl
  refine zb_S (S2 := (I, J, Rr, D)) (zS_eq eI0.symm eJ0.symm) ?_
  exact c_X12_putOff_0 N a1 v_off e_v_off rr E hQ h
-- ChequeredClothModel.moved
abbrev R_pM_moved : Type := Int32
def pM_moved (v_moved : Int32) : Option R_pM_moved :=
  some v_moved
theorem dX12_moved_0 : decode cX12_moved 0 = .ok (.aload_n 0, 1) := by decide +kernel
theorem dX12_moved_1 : decode cX12_moved 1 = .ok (.getfield 190, 3) := by decide +kernel
theorem dX12_moved_4 : decode cX12_moved 4 = .ok (.ireturn, 1) := by decide +kernel
theorem zy_X12_moved : zYv yX12_moved cX12_moved 1 (some .int) 0 := ⟨zw_1805, zw_1806, zw_12, zw_1807, by decide, by decide, by decide⟩
theorem c_X12_moved_0 {C : zC} {I : Nat → Nat → Int32} {J : Nat → Nat → Int64} {Rr : Nat → Nat → Option Nat} {D : zD} (v_moved : Int32) (e_v_moved : I 128 84 = v_moved) (rr : Int32) (E : zE C RX12 cX12_moved 1 (some .int) ({ frames := 0, cells := 0, slots := 0, locals := 0 } : Room)) (hQ : C.Q = zQi C ({ frames := 0, cells := 0, slots := 0, locals := 0 } : Room) rr (I, J, Rr, D)) (h : pM_moved v_moved = some rr) : zB C (0, 0) 0 [(0, .ref (C.X.1 + 128))] [] (I, J, Rr, D) := by
  refine zb_aload_n E dX12_moved_0 0 rfl rfl ?_
  refine zb_get E 128 (by decide) (zF_128 C.X) rfl zin12 84 (by decide) zw_1252 (v := .int v_moved) (by exact congrArg (fun z => some (Value.int z)) e_v_moved) dX12_moved_1 ?_
  cases h
  exact zb_iret E hQ rfl (by decide) dX12_moved_4
theorem c_X12_moved {l : Launch} {X : zX} {I : Nat → Nat → Int32} {J : Nat → Nat → Int64} {Rr : Nat → Nat → Option Nat} {D : zD} (v_moved : Int32) (e_v_moved : I 128 84 = v_moved) {rr : Int32} (h : pM_moved v_moved = some rr) : zMi l yX12_moved cX12_moved 1 (some .int) ({ frames := 0, cells := 0, slots := 0, locals := 0 } : Room) X [.ref (X.1 + 128)] (I, J, Rr, D) rr (I, J, Rr, D) := by
  refine zMi.of (by decide) (Nat.le_of_ble_eq_true rfl) (fun C E hl hX hQ => ?_)
  subst hl
  subst hX
  have eI0 : I = I := rfl
  have eJ0 : J = J := rfl
  refine zb_S (S2 := (I, J, Rr, D)) (zS_eq eI0.symm eJ0.symm) ?_
  exact c_X12_moved_0 v_moved e_v_moved rr E hQ h
-- ChequeredClothModel.all
abbrev R_pM_all : Type := Int32
def pM_all_b44_F (N : Nat) (a1 : Int32) (v_acts : Int32) (v_as : Int32) (v_cuts : (Nat → Int32)) (self : Int32 → Int32 → Option R_pM_all) (x2 : Int32) (x3 : Int32) : Option R_pM_all :=
  if 10 ≤ x3 then
    some x2
  else
    bd1 (pM_isThere x3 v_cuts) fun rc2 =>
    if rc2 = 0 then
      self x2 (x3 + 1)
    else
      self (x2 + 1) (x3 + 1)
def pM_all_b44 (N : Nat) (a1 : Int32) (v_acts : Int32) (v_as : Int32) (v_cuts : (Nat → Int32)) : Nat → Int32 → Int32 → Option R_pM_all := zlp2 (pM_all_b44_F N a1 v_acts v_as v_cuts)
def pM_all_b71_F (N : Nat) (a1 : Int32) (v_acts : Int32) (v_as : Int32) (v_cuts : (Nat → Int32)) (self : Int32 → Int32 → Option R_pM_all) (x2 : Int32) (x3 : Int32) : Option R_pM_all :=
  if 10 ≤ x3 then
    some x2
  else
    bd1 (pM_isThere (10 + x3) v_cuts) fun rc3 =>
    if rc3 = 0 then
      self x2 (x3 + 1)
    else
      self (x2 + 1) (x3 + 1)
def pM_all_b71 (N : Nat) (a1 : Int32) (v_acts : Int32) (v_as : Int32) (v_cuts : (Nat → Int32)) : Nat → Int32 → Int32 → Option R_pM_all := zlp2 (pM_all_b71_F N a1 v_acts v_as v_cuts)
def pM_all (N : Nat) (a1 : Int32) (v_acts : Int32) (v_as : Int32) (v_cuts : (Nat → Int32)) : Option R_pM_all :=
  if a1 = 0 then
    some v_acts
  else if a1 = 1 then
    bd1 (pM_asNow v_acts v_as) fun rc1 =>
    some rc1
  else if a1 = 2 then
    pM_all_b44 N a1 v_acts v_as v_cuts N 0 0
  else if a1 = 3 then
    pM_all_b71 N a1 v_acts v_as v_cuts N 0 0
  else
    some (-1)
theorem dX12_all_0 : decode cX12_all 0 = .ok (.iconst 0, 1) := by decide +kernel
theorem dX12_all_1 : decode cX12_all 1 = .ok (.istore_n 2, 1) := by decide +kernel
theorem dX12_all_2 : decode cX12_all 2 = .ok (.iload_n 1, 1) := by decide +kernel
theorem dX12_all_3 : decode cX12_all 3 = .ok (.tableswitch 96 0 3 #[29, 34, 39, 66], 29) := by decide +kernel
theorem dX12_all_32 : decode cX12_all 32 = .ok (.aload_n 0, 1) := by decide +kernel
theorem dX12_all_33 : decode cX12_all 33 = .ok (.getfield 429, 3) := by decide +kernel
theorem dX12_all_36 : decode cX12_all 36 = .ok (.ireturn, 1) := by decide +kernel
theorem dX12_all_37 : decode cX12_all 37 = .ok (.aload_n 0, 1) := by decide +kernel
theorem dX12_all_38 : decode cX12_all 38 = .ok (.invokevirtual 469, 3) := by decide +kernel
theorem dX12_all_41 : decode cX12_all 41 = .ok (.ireturn, 1) := by decide +kernel
theorem dX12_all_42 : decode cX12_all 42 = .ok (.iconst 0, 1) := by decide +kernel
theorem dX12_all_43 : decode cX12_all 43 = .ok (.istore_n 3, 1) := by decide +kernel
theorem dX12_all_44 : decode cX12_all 44 = .ok (.iload_n 3, 1) := by decide +kernel
theorem dX12_all_45 : decode cX12_all 45 = .ok (.bipush 10, 2) := by decide +kernel
theorem dX12_all_47 : decode cX12_all 47 = .ok (.if_icmp .ge 20, 3) := by decide +kernel
theorem dX12_all_50 : decode cX12_all 50 = .ok (.aload_n 0, 1) := by decide +kernel
theorem dX12_all_51 : decode cX12_all 51 = .ok (.iload_n 3, 1) := by decide +kernel
theorem dX12_all_52 : decode cX12_all 52 = .ok (.invokevirtual 239, 3) := by decide +kernel
theorem dX12_all_55 : decode cX12_all 55 = .ok (.ifCond .eq 6, 3) := by decide +kernel
theorem dX12_all_58 : decode cX12_all 58 = .ok (.iinc 2 1, 3) := by decide +kernel
theorem dX12_all_61 : decode cX12_all 61 = .ok (.iinc 3 1, 3) := by decide +kernel
theorem dX12_all_64 : decode cX12_all 64 = .ok (.goto (-20), 3) := by decide +kernel
theorem dX12_all_67 : decode cX12_all 67 = .ok (.iload_n 2, 1) := by decide +kernel
theorem dX12_all_68 : decode cX12_all 68 = .ok (.ireturn, 1) := by decide +kernel
theorem dX12_all_69 : decode cX12_all 69 = .ok (.iconst 0, 1) := by decide +kernel
theorem dX12_all_70 : decode cX12_all 70 = .ok (.istore_n 3, 1) := by decide +kernel
theorem dX12_all_71 : decode cX12_all 71 = .ok (.iload_n 3, 1) := by decide +kernel
theorem dX12_all_72 : decode cX12_all 72 = .ok (.bipush 10, 2) := by decide +kernel
theorem dX12_all_74 : decode cX12_all 74 = .ok (.if_icmp .ge 23, 3) := by decide +kernel
theorem dX12_all_77 : decode cX12_all 77 = .ok (.aload_n 0, 1) := by decide +kernel
theorem dX12_all_78 : decode cX12_all 78 = .ok (.bipush 10, 2) := by decide +kernel
theorem dX12_all_80 : decode cX12_all 80 = .ok (.iload_n 3, 1) := by decide +kernel
theorem dX12_all_81 : decode cX12_all 81 = .ok (.iadd, 1) := by decide +kernel
theorem dX12_all_82 : decode cX12_all 82 = .ok (.invokevirtual 239, 3) := by decide +kernel
theorem dX12_all_85 : decode cX12_all 85 = .ok (.ifCond .eq 6, 3) := by decide +kernel
theorem dX12_all_88 : decode cX12_all 88 = .ok (.iinc 2 1, 3) := by decide +kernel
theorem dX12_all_91 : decode cX12_all 91 = .ok (.iinc 3 1, 3) := by decide +kernel
theorem dX12_all_94 : decode cX12_all 94 = .ok (.goto (-23), 3) := by decide +kernel
theorem dX12_all_97 : decode cX12_all 97 = .ok (.iload_n 2, 1) := by decide +kernel
theorem dX12_all_98 : decode cX12_all 98 = .ok (.ireturn, 1) := by decide +kernel
theorem dX12_all_99 : decode cX12_all 99 = .ok (.iconst (-1), 1) := by decide +kernel
theorem dX12_all_100 : decode cX12_all 100 = .ok (.ireturn, 1) := by decide +kernel
theorem zy_X12_all : zYv yX12_all cX12_all 4 (some .int) 1 := ⟨zw_1813, zw_1814, zw_12, zw_1815, by decide, by decide, by decide⟩
theorem c_X12_all_b44 {C : zC} {I : Nat → Nat → Int32} {J : Nat → Nat → Int64} {Rr : Nat → Nat → Option Nat} {D : zD} (N : Nat) (a1 : Int32) (v_acts : Int32) (e_v_acts : I 128 67 = v_acts) (v_as : Int32) (e_v_as : I 128 73 = v_as) (v_cuts : (Nat → Int32)) (e_v_cuts : I 135 = v_cuts) (rr : Int32) (E : zE C RX12 cX12_all 4 (some .int) ({ frames := 1, cells := 0, slots := 0, locals := 21 } : Room)) (hQ : C.Q = zQi C ({ frames := 1, cells := 0, slots := 0, locals := 21 } : Room) rr (I, J, Rr, D))  : ∀ (n9 : Nat) (x2 : Int32) (x3 : Int32), pM_all_b44 N a1 v_acts v_as v_cuts n9 x2 x3 = some rr → zB C (0, 0) 44 [(0, .ref (C.X.1 + 128)), (2, .int x2), (3, .int x3)] [] (I, J, Rr, D) := by
  refine zlp2_ind (P := fun (x2 : Int32) (x3 : Int32) => zB C (0, 0) 44 [(0, .ref (C.X.1 + 128)), (2, .int x2), (3, .int x3)] [] (I, J, Rr, D)) (fun self ih => ?_)
  intro x2 x3 h
  refine zb_iload_n E dX12_all_44 2 rfl rfl ?_
  refine zb_bipush E dX12_all_45 (v := 10) rfl ?_
  refine zb_icmp_ge E dX12_all_47 (tgt := 67) rfl (fun hc => ?_) (fun hc => ?_)
  · have h := if_t h hc
    refine zb_iload_n E dX12_all_67 1 rfl rfl ?_
    cases h
    exact zb_iret E hQ rfl (by decide) dX12_all_68
  · have h := if_f h hc
    refine zb_aload_n E dX12_all_50 0 rfl rfl ?_
    refine zb_iload_n E dX12_all_51 2 rfl rfl ?_
    obtain ⟨rc2, hc_52, h⟩ := bd1_s h
    refine zb_cVi E [.int x3] 128 zy_X12_isThere zw_1497 (by decide) (zF_128 _ _ _ _) rfl (c_X12_isThere v_cuts (by exact e_v_cuts) hc_52) (by decide) rfl rfl (by first | decide | simp [Value.category]) dX12_all_52 (cs2 := (0, 0)) rfl ?_
    refine zb_if_eq E dX12_all_55 (tgt := 61) rfl (fun hc => ?_) (fun hc => ?_)
    · have h := if_t h hc
      refine zb_iinc E dX12_all_61 2 rfl (v := (x3 + 1)) rfl (by decide) (lv2 := [(3, .int (x3 + 1)), (0, .ref (C.X.1 + 128)), (2, .int x2)]) rfl ?_
      refine zb_goto E dX12_all_64 (tgt := 44) rfl ?_
      refine zb_sub [1, 2, 0] rfl ?_
      exact ih x2 (x3 + 1) h
    · have h := if_f h hc
      refine zb_iinc E dX12_all_58 1 rfl (v := (x2 + 1)) rfl (by decide) (lv2 := [(2, .int (x2 + 1)), (0, .ref (C.X.1 + 128)), (3, .int x3)]) rfl ?_
      refine zb_iinc E dX12_all_61 2 rfl (v := (x3 + 1)) rfl (by decide) (lv2 := [(3, .int (x3 + 1)), (2, .int (x2 + 1)), (0, .ref (C.X.1 + 128))]) rfl ?_
      refine zb_goto E dX12_all_64 (tgt := 44) rfl ?_
      refine zb_sub [2, 1, 0] rfl ?_
      exact ih (x2 + 1) (x3 + 1) h
theorem c_X12_all_b71 {C : zC} {I : Nat → Nat → Int32} {J : Nat → Nat → Int64} {Rr : Nat → Nat → Option Nat} {D : zD} (N : Nat) (a1 : Int32) (v_acts : Int32) (e_v_acts : I 128 67 = v_acts) (v_as : Int32) (e_v_as : I 128 73 = v_as) (v_cuts : (Nat → Int32)) (e_v_cuts : I 135 = v_cuts) (rr : Int32) (E : zE C RX12 cX12_all 4 (some .int) ({ frames := 1, cells := 0, slots := 0, locals := 21 } : Room)) (hQ : C.Q = zQi C ({ frames := 1, cells := 0, slots := 0, locals := 21 } : Room) rr (I, J, Rr, D))  : ∀ (n9 : Nat) (x2 : Int32) (x3 : Int32), pM_all_b71 N a1 v_acts v_as v_cuts n9 x2 x3 = some rr → zB C (0, 0) 71 [(0, .ref (C.X.1 + 128)), (2, .int x2), (3, .int x3)] [] (I, J, Rr, D) := by
  refine zlp2_ind (P := fun (x2 : Int32) (x3 : Int32) => zB C (0, 0) 71 [(0, .ref (C.X.1 + 128)), (2, .int x2), (3, .int x3)] [] (I, J, Rr, D)) (fun self ih => ?_)
  intro x2 x3 h
  refine zb_iload_n E dX12_all_71 2 rfl rfl ?_
  refine zb_bipush E dX12_all_72 (v := 10) rfl ?_
  refine zb_icmp_ge E dX12_all_74 (tgt := 97) rfl (fun hc => ?_) (fun hc => ?_)
  · have h := if_t h hc
    refine zb_iload_n E dX12_all_97 1 rfl rfl ?_
    cases h
    exact zb_iret E hQ rfl (by decide) dX12_all_98
  · have h := if_f h hc
    refine zb_aload_n E dX12_all_77 0 rfl rfl ?_
    refine zb_bipush E dX12_all_78 (v := 10) rfl ?_
    refine zb_iload_n E dX12_all_80 2 rfl rfl ?_
    refine zb_iadd E dX12_all_81 ?_
    obtain ⟨rc3, hc_82, h⟩ := bd1_s h
    refine zb_cVi E [.int (10 + x3)] 128 zy_X12_isThere zw_1497 (by decide) (zF_128 _ _ _ _) rfl (c_X12_isThere v_cuts (by exact e_v_cuts) hc_82) (by decide) rfl rfl (by first | decide | simp [Value.category]) dX12_all_82 (cs2 := (0, 0)) rfl ?_
    refine zb_if_eq E dX12_all_85 (tgt := 91) rfl (fun hc => ?_) (fun hc => ?_)
    · have h := if_t h hc
      refine zb_iinc E dX12_all_91 2 rfl (v := (x3 + 1)) rfl (by decide) (lv2 := [(3, .int (x3 + 1)), (0, .ref (C.X.1 + 128)), (2, .int x2)]) rfl ?_
      refine zb_goto E dX12_all_94 (tgt := 71) rfl ?_
      refine zb_sub [1, 2, 0] rfl ?_
      exact ih x2 (x3 + 1) h
    · have h := if_f h hc
      refine zb_iinc E dX12_all_88 1 rfl (v := (x2 + 1)) rfl (by decide) (lv2 := [(2, .int (x2 + 1)), (0, .ref (C.X.1 + 128)), (3, .int x3)]) rfl ?_
      refine zb_iinc E dX12_all_91 2 rfl (v := (x3 + 1)) rfl (by decide) (lv2 := [(3, .int (x3 + 1)), (2, .int (x2 + 1)), (0, .ref (C.X.1 + 128))]) rfl ?_
      refine zb_goto E dX12_all_94 (tgt := 71) rfl ?_
      refine zb_sub [2, 1, 0] rfl ?_
      exact ih (x2 + 1) (x3 + 1) h
theorem c_X12_all_0 {C : zC} {I : Nat → Nat → Int32} {J : Nat → Nat → Int64} {Rr : Nat → Nat → Option Nat} {D : zD} (N : Nat) (a1 : Int32) (v_acts : Int32) (e_v_acts : I 128 67 = v_acts) (v_as : Int32) (e_v_as : I 128 73 = v_as) (v_cuts : (Nat → Int32)) (e_v_cuts : I 135 = v_cuts) (rr : Int32) (E : zE C RX12 cX12_all 4 (some .int) ({ frames := 1, cells := 0, slots := 0, locals := 21 } : Room)) (hQ : C.Q = zQi C ({ frames := 1, cells := 0, slots := 0, locals := 21 } : Room) rr (I, J, Rr, D)) (h : pM_all N a1 v_acts v_as v_cuts = some rr) : zB C (0, 0) 0 [(0, .ref (C.X.1 + 128)), (1, .int a1)] [] (I, J, Rr, D) := by
  refine zb_iconst E dX12_all_0 (v := 0) rfl ?_
  refine zb_istore_n E dX12_all_1 rfl (by decide) (lv2 := [(2, .int 0), (0, .ref (C.X.1 + 128)), (1, .int a1)]) rfl ?_
  refine zb_iload_n E dX12_all_2 2 rfl rfl ?_
  by_cases hc0 : a1 = 0
  · have h := if_t h hc0
    refine zb_tableIn E dX12_all_3 (tgt := 32) (by rw [hc0]; decide) (by rw [hc0]; decide) (by rw [hc0]; rfl) rfl ?_
    refine zb_aload_n E dX12_all_32 1 rfl rfl ?_
    refine zb_get E 128 (by decide) (zF_128 C.X) rfl zin12 67 (by decide) zw_1235 (v := .int v_acts) (by exact congrArg (fun z => some (Value.int z)) e_v_acts) dX12_all_33 ?_
    cases h
    exact zb_iret E hQ rfl (by decide) dX12_all_36
  have h := if_f h hc0
  by_cases hc1 : a1 = 1
  · have h := if_t h hc1
    refine zb_tableIn E dX12_all_3 (tgt := 37) (by rw [hc1]; decide) (by rw [hc1]; decide) (by rw [hc1]; rfl) rfl ?_
    refine zb_aload_n E dX12_all_37 1 rfl rfl ?_
    obtain ⟨rc1, hc_38, h⟩ := bd1_s h
    refine zb_cVi E [] 128 zy_X12_asNow zw_1727 (by decide) (zF_128 _ _ _ _) rfl (c_X12_asNow v_acts (by exact e_v_acts) v_as (by exact e_v_as) hc_38) (by decide) rfl rfl (by first | decide | simp [Value.category]) dX12_all_38 (cs2 := (0, 0)) rfl ?_
    cases h
    exact zb_iret E hQ rfl (by decide) dX12_all_41
  have h := if_f h hc1
  by_cases hc2 : a1 = 2
  · have h := if_t h hc2
    refine zb_tableIn E dX12_all_3 (tgt := 42) (by rw [hc2]; decide) (by rw [hc2]; decide) (by rw [hc2]; rfl) rfl ?_
    refine zb_iconst E dX12_all_42 (v := 0) rfl ?_
    refine zb_istore_n E dX12_all_43 rfl (by decide) (lv2 := [(3, .int 0), (2, .int 0), (0, .ref (C.X.1 + 128)), (1, .int a1)]) rfl ?_
    refine zb_sub [2, 1, 0] rfl ?_
    exact c_X12_all_b44 N a1 v_acts e_v_acts v_as e_v_as v_cuts e_v_cuts rr E hQ _ 0 0 h
  have h := if_f h hc2
  by_cases hc3 : a1 = 3
  · have h := if_t h hc3
    refine zb_tableIn E dX12_all_3 (tgt := 69) (by rw [hc3]; decide) (by rw [hc3]; decide) (by rw [hc3]; rfl) rfl ?_
    refine zb_iconst E dX12_all_69 (v := 0) rfl ?_
    refine zb_istore_n E dX12_all_70 rfl (by decide) (lv2 := [(3, .int 0), (2, .int 0), (0, .ref (C.X.1 + 128)), (1, .int a1)]) rfl ?_
    refine zb_sub [2, 1, 0] rfl ?_
    exact c_X12_all_b71 N a1 v_acts e_v_acts v_as e_v_as v_cuts e_v_cuts rr E hQ _ 0 0 h
  have h := if_f h hc3
  have hz0 : ¬ (a1).toInt = (0 : Int) := fun e => hc0 (Int32.toInt_inj.mp (e.trans (by decide)))
  have hz1 : ¬ (a1).toInt = (1 : Int) := fun e => hc1 (Int32.toInt_inj.mp (e.trans (by decide)))
  have hz2 : ¬ (a1).toInt = (2 : Int) := fun e => hc2 (Int32.toInt_inj.mp (e.trans (by decide)))
  have hz3 : ¬ (a1).toInt = (3 : Int) := fun e => hc3 (Int32.toInt_inj.mp (e.trans (by decide)))
  refine zb_tableOut E dX12_all_3 (tgt := 99) (by omega) rfl ?_
  refine zb_iconst E dX12_all_99 (v := (-1)) rfl ?_
  cases h
  exact zb_iret E hQ rfl (by decide) dX12_all_100
theorem c_X12_all {l : Launch} {X : zX} {I : Nat → Nat → Int32} {J : Nat → Nat → Int64} {Rr : Nat → Nat → Option Nat} {D : zD} {N : Nat} {a1 : Int32} (v_acts : Int32) (e_v_acts : I 128 67 = v_acts) (v_as : Int32) (e_v_as : I 128 73 = v_as) (v_cuts : (Nat → Int32)) (e_v_cuts : I 135 = v_cuts) {rr : Int32} (h : pM_all N a1 v_acts v_as v_cuts = some rr) : zMi l yX12_all cX12_all 4 (some .int) ({ frames := 1, cells := 0, slots := 0, locals := 21 } : Room) X [.ref (X.1 + 128), .int a1] (I, J, Rr, D) rr (I, J, Rr, D) := by
  refine zMi.of (by decide) (Nat.le_of_ble_eq_true rfl) (fun C E hl hX hQ => ?_)
  subst hl
  subst hX
  have eI0 : I = I := rfl
  have eJ0 : J = J := rfl
  refine zb_S (S2 := (I, J, Rr, D)) (zS_eq eI0.symm eJ0.symm) ?_
  exact c_X12_all_0 N a1 v_acts e_v_acts v_as e_v_as v_cuts e_v_cuts rr E hQ h
