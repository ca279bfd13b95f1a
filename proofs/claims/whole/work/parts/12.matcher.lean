set_option maxHeartbeats 4000000
set_option maxRecDepth 100000
-- ChequeredCloth$Matcher.shiftPrices
abbrev R_pMatcher_shiftPrices : Type := (Nat → Int64) × (Nat → Int64) × (Nat → Int64)
def pMatcher_shiftPrices_b2_F (N : Nat) (a1 : Int64) (v_isReached : (Nat → Int32)) (v_rowOf : (Nat → Int32)) (self : Int32 → (Nat → Int64) → (Nat → Int64) → (Nat → Int64) → Option R_pMatcher_shiftPrices) (x3 : Int32) (v_columnPrices : (Nat → Int64)) (v_gaps : (Nat → Int64)) (v_rowPrices : (Nat → Int64)) : Option R_pMatcher_shiftPrices :=
  if 20 < x3 then
    some (v_columnPrices, v_gaps, v_rowPrices)
  else
    gd (ib x3 21) <|
    if (v_isReached (ix x3)) = 0 then
      self (x3 + 1) v_columnPrices (vp_updL v_gaps (ix x3) ((v_gaps (ix x3)) - a1)) v_rowPrices
    else
      gd (ib (v_rowOf (ix x3)) 11) <|
      self (x3 + 1) (vp_updL v_columnPrices (ix x3) ((v_columnPrices (ix x3)) - a1)) v_gaps (vp_updL v_rowPrices (ix (v_rowOf (ix x3))) ((v_rowPrices (ix (v_rowOf (ix x3)))) + a1))
def pMatcher_shiftPrices_b2 (N : Nat) (a1 : Int64) (v_isReached : (Nat → Int32)) (v_rowOf : (Nat → Int32)) : Nat → Int32 → (Nat → Int64) → (Nat → Int64) → (Nat → Int64) → Option R_pMatcher_shiftPrices := zlp4 (pMatcher_shiftPrices_b2_F N a1 v_isReached v_rowOf)
def pMatcher_shiftPrices (N : Nat) (a1 : Int64) (v_columnPrices : (Nat → Int64)) (v_gaps : (Nat → Int64)) (v_isReached : (Nat → Int32)) (v_rowOf : (Nat → Int32)) (v_rowPrices : (Nat → Int64)) : Option R_pMatcher_shiftPrices :=
  pMatcher_shiftPrices_b2 N a1 v_isReached v_rowOf N 0 v_columnPrices v_gaps v_rowPrices
theorem dX6_shiftPrices_0 : decode cX6_shiftPrices 0 = .ok (.iconst 0, 1) := by decide +kernel
theorem dX6_shiftPrices_1 : decode cX6_shiftPrices 1 = .ok (.istore_n 3, 1) := by decide +kernel
theorem dX6_shiftPrices_2 : decode cX6_shiftPrices 2 = .ok (.iload_n 3, 1) := by decide +kernel
theorem dX6_shiftPrices_3 : decode cX6_shiftPrices 3 = .ok (.bipush 20, 2) := by decide +kernel
theorem dX6_shiftPrices_5 : decode cX6_shiftPrices 5 = .ok (.if_icmp .gt 56, 3) := by decide +kernel
theorem dX6_shiftPrices_8 : decode cX6_shiftPrices 8 = .ok (.aload_n 0, 1) := by decide +kernel
theorem dX6_shiftPrices_9 : decode cX6_shiftPrices 9 = .ok (.getfield 33, 3) := by decide +kernel
theorem dX6_shiftPrices_12 : decode cX6_shiftPrices 12 = .ok (.iload_n 3, 1) := by decide +kernel
theorem dX6_shiftPrices_13 : decode cX6_shiftPrices 13 = .ok (.baload, 1) := by decide +kernel
theorem dX6_shiftPrices_14 : decode cX6_shiftPrices 14 = .ok (.ifCond .eq 31, 3) := by decide +kernel
theorem dX6_shiftPrices_17 : decode cX6_shiftPrices 17 = .ok (.aload_n 0, 1) := by decide +kernel
theorem dX6_shiftPrices_18 : decode cX6_shiftPrices 18 = .ok (.getfield 16, 3) := by decide +kernel
theorem dX6_shiftPrices_21 : decode cX6_shiftPrices 21 = .ok (.aload_n 0, 1) := by decide +kernel
theorem dX6_shiftPrices_22 : decode cX6_shiftPrices 22 = .ok (.getfield 26, 3) := by decide +kernel
theorem dX6_shiftPrices_25 : decode cX6_shiftPrices 25 = .ok (.iload_n 3, 1) := by decide +kernel
theorem dX6_shiftPrices_26 : decode cX6_shiftPrices 26 = .ok (.iaload, 1) := by decide +kernel
theorem dX6_shiftPrices_27 : decode cX6_shiftPrices 27 = .ok (.dup2, 1) := by decide +kernel
theorem dX6_shiftPrices_28 : decode cX6_shiftPrices 28 = .ok (.laload, 1) := by decide +kernel
theorem dX6_shiftPrices_29 : decode cX6_shiftPrices 29 = .ok (.lload_n 1, 1) := by decide +kernel
theorem dX6_shiftPrices_30 : decode cX6_shiftPrices 30 = .ok (.ladd, 1) := by decide +kernel
theorem dX6_shiftPrices_31 : decode cX6_shiftPrices 31 = .ok (.lastore, 1) := by decide +kernel
theorem dX6_shiftPrices_32 : decode cX6_shiftPrices 32 = .ok (.aload_n 0, 1) := by decide +kernel
theorem dX6_shiftPrices_33 : decode cX6_shiftPrices 33 = .ok (.getfield 20, 3) := by decide +kernel
theorem dX6_shiftPrices_36 : decode cX6_shiftPrices 36 = .ok (.iload_n 3, 1) := by decide +kernel
theorem dX6_shiftPrices_37 : decode cX6_shiftPrices 37 = .ok (.dup2, 1) := by decide +kernel
theorem dX6_shiftPrices_38 : decode cX6_shiftPrices 38 = .ok (.laload, 1) := by decide +kernel
theorem dX6_shiftPrices_39 : decode cX6_shiftPrices 39 = .ok (.lload_n 1, 1) := by decide +kernel
theorem dX6_shiftPrices_40 : decode cX6_shiftPrices 40 = .ok (.lsub, 1) := by decide +kernel
theorem dX6_shiftPrices_41 : decode cX6_shiftPrices 41 = .ok (.lastore, 1) := by decide +kernel
theorem dX6_shiftPrices_42 : decode cX6_shiftPrices 42 = .ok (.goto 13, 3) := by decide +kernel
theorem dX6_shiftPrices_45 : decode cX6_shiftPrices 45 = .ok (.aload_n 0, 1) := by decide +kernel
theorem dX6_shiftPrices_46 : decode cX6_shiftPrices 46 = .ok (.getfield 23, 3) := by decide +kernel
theorem dX6_shiftPrices_49 : decode cX6_shiftPrices 49 = .ok (.iload_n 3, 1) := by decide +kernel
theorem dX6_shiftPrices_50 : decode cX6_shiftPrices 50 = .ok (.dup2, 1) := by decide +kernel
theorem dX6_shiftPrices_51 : decode cX6_shiftPrices 51 = .ok (.laload, 1) := by decide +kernel
theorem dX6_shiftPrices_52 : decode cX6_shiftPrices 52 = .ok (.lload_n 1, 1) := by decide +kernel
theorem dX6_shiftPrices_53 : decode cX6_shiftPrices 53 = .ok (.lsub, 1) := by decide +kernel
theorem dX6_shiftPrices_54 : decode cX6_shiftPrices 54 = .ok (.lastore, 1) := by decide +kernel
theorem dX6_shiftPrices_55 : decode cX6_shiftPrices 55 = .ok (.iinc 3 1, 3) := by decide +kernel
theorem dX6_shiftPrices_58 : decode cX6_shiftPrices 58 = .ok (.goto (-56), 3) := by decide +kernel
theorem dX6_shiftPrices_61 : decode cX6_shiftPrices 61 = .ok (.return_, 1) := by decide +kernel
theorem zy_X6_shiftPrices : zYv yX6_shiftPrices cX6_shiftPrices 4 none 1 := ⟨zw_598, zws_9, zw_4, zw_599, by decide, by decide, by decide⟩
theorem c_X6_shiftPrices_b2 {C : zC} {I : Nat → Nat → Int32} {J : Nat → Nat → Int64} {Rr : Nat → Nat → Option Nat} {D : zD} (N : Nat) (a1 : Int64) (v_isReached : (Nat → Int32)) (e_v_isReached : I 31 = v_isReached) (v_rowOf : (Nat → Int32)) (e_v_rowOf : I 29 = v_rowOf) (y_v_columnPrices : (Nat → Int64)) (y_v_gaps : (Nat → Int64)) (y_v_rowPrices : (Nat → Int64)) (E : zE C RX6 cX6_shiftPrices 4 none ({ frames := 0, cells := 0, slots := 0, locals := 0 } : Room)) (hQ : C.Q = zQv C ({ frames := 0, cells := 0, slots := 0, locals := 0 } : Room) (I, (va_up (va_up (va_up J 26 y_v_rowPrices) 27 y_v_columnPrices) 28 y_v_gaps), Rr, D))  : ∀ (n9 : Nat) (x3 : Int32) (v_columnPrices : (Nat → Int64)) (v_gaps : (Nat → Int64)) (v_rowPrices : (Nat → Int64)), pMatcher_shiftPrices_b2 N a1 v_isReached v_rowOf n9 x3 v_columnPrices v_gaps v_rowPrices = some (y_v_columnPrices, y_v_gaps, y_v_rowPrices) → zB C (0, 0) 2 [(0, .ref (C.X.1 + 13)), (1, .long a1), (3, .int x3)] [] (I, (va_up (va_up (va_up J 26 v_rowPrices) 27 v_columnPrices) 28 v_gaps), Rr, D) := by
  refine zlp4_ind (P := fun (x3 : Int32) (v_columnPrices : (Nat → Int64)) (v_gaps : (Nat → Int64)) (v_rowPrices : (Nat → Int64)) => zB C (0, 0) 2 [(0, .ref (C.X.1 + 13)), (1, .long a1), (3, .int x3)] [] (I, (va_up (va_up (va_up J 26 v_rowPrices) 27 v_columnPrices) 28 v_gaps), Rr, D)) (fun self ih => ?_)
  intro x3 v_columnPrices v_gaps v_rowPrices h
  refine zb_iload_n E dX6_shiftPrices_2 2 rfl rfl ?_
  refine zb_bipush E dX6_shiftPrices_3 (v := 20) rfl ?_
  refine zb_icmp_gt E dX6_shiftPrices_5 (tgt := 61) rfl (fun hc => ?_) (fun hc => ?_)
  · have h := if_t h hc
    obtain ⟨rfl, rfl, rfl⟩ := zinj3 h
    exact zb_vret E hQ rfl (by decide) dX6_shiftPrices_61
  · have h := if_f h hc
    refine zb_aload_n E dX6_shiftPrices_8 0 rfl rfl ?_
    refine zb_get E 13 (by decide) (zF_13 C.X) rfl zin6 6 (by decide) zw_66 (v := .ref (C.X.1 + 31)) rfl dX6_shiftPrices_9 ?_
    refine zb_iload_n E dX6_shiftPrices_12 2 rfl rfl ?_
    obtain ⟨g1, h⟩ := gd_s h
    refine zb_zald E 31 (by decide) zF_31 (f := v_isReached) (by exact e_v_isReached) (ib_in g1) dX6_shiftPrices_13 ?_
    refine zb_if_eq E dX6_shiftPrices_14 (tgt := 45) rfl (fun hc => ?_) (fun hc => ?_)
    · have h := if_t h hc
      refine zb_aload_n E dX6_shiftPrices_45 0 rfl rfl ?_
      refine zb_get E 13 (by decide) (zF_13 C.X) rfl zin6 3 (by decide) zw_63 (v := .ref (C.X.1 + 28)) rfl dX6_shiftPrices_46 ?_
      refine zb_iload_n E dX6_shiftPrices_49 2 rfl rfl ?_
      refine zb_dup2_11 E dX6_shiftPrices_50 rfl rfl ?_
      refine zb_lald E 28 (by decide) zF_28 (f := v_gaps) rfl (ib_in g1) dX6_shiftPrices_51 ?_
      refine zb_lload_n E dX6_shiftPrices_52 1 rfl rfl ?_
      refine zb_lsub E dX6_shiftPrices_53 ?_
      refine zb_last E 28 (by decide) zF_28 (f := v_gaps) rfl (ib_in g1) dX6_shiftPrices_54 (J2 := (va_up (va_up (va_up J 26 v_rowPrices) 27 v_columnPrices) 28 (vp_updL v_gaps (ix x3) ((v_gaps (ix x3)) - a1)))) zn1 ?_
      refine zb_iinc E dX6_shiftPrices_55 2 rfl (v := (x3 + 1)) rfl (by decide) (lv2 := [(3, .int (x3 + 1)), (0, .ref (C.X.1 + 13)), (1, .long a1)]) rfl ?_
      refine zb_goto E dX6_shiftPrices_58 (tgt := 2) rfl ?_
      refine zb_sub [1, 2, 0] rfl ?_
      exact ih (x3 + 1) v_columnPrices (vp_updL v_gaps (ix x3) ((v_gaps (ix x3)) - a1)) v_rowPrices h
    · have h := if_f h hc
      refine zb_aload_n E dX6_shiftPrices_17 0 rfl rfl ?_
      refine zb_get E 13 (by decide) (zF_13 C.X) rfl zin6 1 (by decide) zw_61 (v := .ref (C.X.1 + 26)) rfl dX6_shiftPrices_18 ?_
      refine zb_aload_n E dX6_shiftPrices_21 0 rfl rfl ?_
      refine zb_get E 13 (by decide) (zF_13 C.X) rfl zin6 4 (by decide) zw_64 (v := .ref (C.X.1 + 29)) rfl dX6_shiftPrices_22 ?_
      refine zb_iload_n E dX6_shiftPrices_25 2 rfl rfl ?_
      refine zb_iald E 29 (by decide) zF_29 (f := v_rowOf) (by exact e_v_rowOf) (ib_in g1) dX6_shiftPrices_26 ?_
      refine zb_dup2_11 E dX6_shiftPrices_27 rfl rfl ?_
      obtain ⟨g2, h⟩ := gd_s h
      refine zb_lald E 26 (by decide) zF_26 (f := v_rowPrices) rfl (ib_in g2) dX6_shiftPrices_28 ?_
      refine zb_lload_n E dX6_shiftPrices_29 1 rfl rfl ?_
      refine zb_ladd E dX6_shiftPrices_30 ?_
      refine zb_last E 26 (by decide) zF_26 (f := v_rowPrices) rfl (ib_in g2) dX6_shiftPrices_31 (J2 := (va_up (va_up (va_up J 26 (vp_updL v_rowPrices (ix (v_rowOf (ix x3))) ((v_rowPrices (ix (v_rowOf (ix x3)))) + a1))) 27 v_columnPrices) 28 v_gaps)) (zn3 (by decide : (28 : Nat) ≠ 26) (by decide : (27 : Nat) ≠ 26)) ?_
      refine zb_aload_n E dX6_shiftPrices_32 0 rfl rfl ?_
      refine zb_get E 13 (by decide) (zF_13 C.X) rfl zin6 2 (by decide) zw_62 (v := .ref (C.X.1 + 27)) rfl dX6_shiftPrices_33 ?_
      refine zb_iload_n E dX6_shiftPrices_36 2 rfl rfl ?_
      refine zb_dup2_11 E dX6_shiftPrices_37 rfl rfl ?_
      refine zb_lald E 27 (by decide) zF_27 (f := v_columnPrices) rfl (ib_in g1) dX6_shiftPrices_38 ?_
      refine zb_lload_n E dX6_shiftPrices_39 1 rfl rfl ?_
      refine zb_lsub E dX6_shiftPrices_40 ?_
      refine zb_last E 27 (by decide) zF_27 (f := v_columnPrices) rfl (ib_in g1) dX6_shiftPrices_41 (J2 := (va_up (va_up (va_up J 26 (vp_updL v_rowPrices (ix (v_rowOf (ix x3))) ((v_rowPrices (ix (v_rowOf (ix x3)))) + a1))) 27 (vp_updL v_columnPrices (ix x3) ((v_columnPrices (ix x3)) - a1))) 28 v_gaps)) (zn2 (by decide : (28 : Nat) ≠ 27)) ?_
      refine zb_goto E dX6_shiftPrices_42 (tgt := 55) rfl ?_
      refine zb_iinc E dX6_shiftPrices_55 2 rfl (v := (x3 + 1)) rfl (by decide) (lv2 := [(3, .int (x3 + 1)), (0, .ref (C.X.1 + 13)), (1, .long a1)]) rfl ?_
      refine zb_goto E dX6_shiftPrices_58 (tgt := 2) rfl ?_
      refine zb_sub [1, 2, 0] rfl ?_
      exact ih (x3 + 1) (vp_updL v_columnPrices (ix x3) ((v_columnPrices (ix x3)) - a1)) v_gaps (vp_updL v_rowPrices (ix (v_rowOf (ix x3))) ((v_rowPrices (ix (v_rowOf (ix x3)))) + a1)) h
theorem c_X6_shiftPrices_0 {C : zC} {I : Nat → Nat → Int32} {J : Nat → Nat → Int64} {Rr : Nat → Nat → Option Nat} {D : zD} (N : Nat) (a1 : Int64) (v_isReached : (Nat → Int32)) (e_v_isReached : I 31 = v_isReached) (v_rowOf : (Nat → Int32)) (e_v_rowOf : I 29 = v_rowOf) (y_v_columnPrices : (Nat → Int64)) (y_v_gaps : (Nat → Int64)) (y_v_rowPrices : (Nat → Int64)) (E : zE C RX6 cX6_shiftPrices 4 none ({ frames := 0, cells := 0, slots := 0, locals := 0 } : Room)) (hQ : C.Q = zQv C ({ frames := 0, cells := 0, slots := 0, locals := 0 } : Room) (I, (va_up (va_up (va_up J 26 y_v_rowPrices) 27 y_v_columnPrices) 28 y_v_gaps), Rr, D)) (v_columnPrices : (Nat → Int64)) (v_gaps : (Nat → Int64)) (v_rowPrices : (Nat → Int64)) (h : pMatcher_shiftPrices N a1 v_columnPrices v_gaps v_isReached v_rowOf v_rowPrices = some (y_v_columnPrices, y_v_gaps, y_v_rowPrices)) : zB C (0, 0) 0 [(0, .ref (C.X.1 + 13)), (1, .long a1)] [] (I, (va_up (va_up (va_up J 26 v_rowPrices) 27 v_columnPrices) 28 v_gaps), Rr, D) := by
  refine zb_iconst E dX6_shiftPrices_0 (v := 0) rfl ?_
  refine zb_istore_n E dX6_shiftPrices_1 rfl (by decide) (lv2 := [(3, .int 0), (0, .ref (C.X.1 + 13)), (1, .long a1)]) rfl ?_
  refine zb_sub [1, 2, 0] rfl ?_
  exact c_X6_shiftPrices_b2 N a1 v_isReached e_v_isReached v_rowOf e_v_rowOf y_v_columnPrices y_v_gaps y_v_rowPrices E hQ _ 0 v_columnPrices v_gaps v_rowPrices h
theorem c_X6_shiftPrices {l : Launch} {X : zX} {I : Nat → Nat → Int32} {J : Nat → Nat → Int64} {Rr : Nat → Nat → Option Nat} {D : zD} {N : Nat} {a1 : Int64} (v_isReached : (Nat → Int32)) (e_v_isReached : I 31 = v_isReached) (v_rowOf : (Nat → Int32)) (e_v_rowOf : I 29 = v_rowOf) (v_columnPrices : (Nat → Int64)) (e_v_columnPrices : J 27 = v_columnPrices) (v_gaps : (Nat → Int64)) (e_v_gaps : J 28 = v_gaps) (v_rowPrices : (Nat → Int64)) (e_v_rowPrices : J 26 = v_rowPrices) {y_v_columnPrices : (Nat → Int64)} {y_v_gaps : (Nat → Int64)} {y_v_rowPrices : (Nat → Int64)} (h : pMatcher_shiftPrices N a1 v_columnPrices v_gaps v_isReached v_rowOf v_rowPrices = some (y_v_columnPrices, y_v_gaps, y_v_rowPrices)) : zMv l yX6_shiftPrices cX6_shiftPrices 4 none ({ frames := 0, cells := 0, slots := 0, locals := 0 } : Room) X [.ref (X.1 + 13), .long a1] (I, J, Rr, D) (I, (va_up (va_up (va_up J 26 y_v_rowPrices) 27 y_v_columnPrices) 28 y_v_gaps), Rr, D) := by
  refine zMv.of (by decide) (Nat.le_of_ble_eq_true rfl) (fun C E hl hX hQ => ?_)
  subst hl
  subst hX
  have eI0 : I = I := rfl
  have eJ0 : (va_up (va_up (va_up J 26 v_rowPrices) 27 v_columnPrices) 28 v_gaps) = J := by rw [zup_idE e_v_rowPrices, zup_idE e_v_columnPrices, zup_idE e_v_gaps]
  refine zb_S (S2 := (I, (va_up (va_up (va_up J 26 v_rowPrices) 27 v_columnPrices) 28 v_gaps), Rr, D)) (zS_eq eI0.symm eJ0.symm) ?_
  exact c_X6_shiftPrices_0 N a1 v_isReached e_v_isReached v_rowOf e_v_rowOf y_v_columnPrices y_v_gaps y_v_rowPrices E hQ v_columnPrices v_gaps v_rowPrices h
-- ChequeredCloth$Matcher.turnOver
abbrev R_pMatcher_turnOver : Type := (Nat → Int32)
def pMatcher_turnOver_b4_F (N : Nat) (a1 : Int32) (v_cameFrom : (Nat → Int32)) (self : Int32 → Int32 → (Nat → Int32) → Option R_pMatcher_turnOver) (x2 : Int32) (x3 : Int32) (v_rowOf : (Nat → Int32)) : Option R_pMatcher_turnOver :=
  if 20 < x3 then
    some v_rowOf
  else
    if x2 = 0 then
      some v_rowOf
    else
      gd (ib x2 21) <|
      gd (ib (v_cameFrom (ix x2)) 21) <|
      self (v_cameFrom (ix x2)) (x3 + 1) (upd v_rowOf (ix x2) (v_rowOf (ix (v_cameFrom (ix x2)))))
def pMatcher_turnOver_b4 (N : Nat) (a1 : Int32) (v_cameFrom : (Nat → Int32)) : Nat → Int32 → Int32 → (Nat → Int32) → Option R_pMatcher_turnOver := zlp3 (pMatcher_turnOver_b4_F N a1 v_cameFrom)
def pMatcher_turnOver (N : Nat) (a1 : Int32) (v_cameFrom : (Nat → Int32)) (v_rowOf : (Nat → Int32)) : Option R_pMatcher_turnOver :=
  pMatcher_turnOver_b4 N a1 v_cameFrom N a1 0 v_rowOf
theorem dX6_turnOver_0 : decode cX6_turnOver 0 = .ok (.iload_n 1, 1) := by decide +kernel
theorem dX6_turnOver_1 : decode cX6_turnOver 1 = .ok (.istore_n 2, 1) := by decide +kernel
theorem dX6_turnOver_2 : decode cX6_turnOver 2 = .ok (.iconst 0, 1) := by decide +kernel
theorem dX6_turnOver_3 : decode cX6_turnOver 3 = .ok (.istore_n 3, 1) := by decide +kernel
theorem dX6_turnOver_4 : decode cX6_turnOver 4 = .ok (.iload_n 3, 1) := by decide +kernel
theorem dX6_turnOver_5 : decode cX6_turnOver 5 = .ok (.bipush 20, 2) := by decide +kernel
theorem dX6_turnOver_7 : decode cX6_turnOver 7 = .ok (.if_icmp .gt 37, 3) := by decide +kernel
theorem dX6_turnOver_10 : decode cX6_turnOver 10 = .ok (.iload_n 2, 1) := by decide +kernel
theorem dX6_turnOver_11 : decode cX6_turnOver 11 = .ok (.ifCond .eq 33, 3) := by decide +kernel
theorem dX6_turnOver_14 : decode cX6_turnOver 14 = .ok (.aload_n 0, 1) := by decide +kernel
theorem dX6_turnOver_15 : decode cX6_turnOver 15 = .ok (.getfield 30, 3) := by decide +kernel
theorem dX6_turnOver_18 : decode cX6_turnOver 18 = .ok (.iload_n 2, 1) := by decide +kernel
theorem dX6_turnOver_19 : decode cX6_turnOver 19 = .ok (.iaload, 1) := by decide +kernel
theorem dX6_turnOver_20 : decode cX6_turnOver 20 = .ok (.istore 4, 2) := by decide +kernel
theorem dX6_turnOver_22 : decode cX6_turnOver 22 = .ok (.aload_n 0, 1) := by decide +kernel
theorem dX6_turnOver_23 : decode cX6_turnOver 23 = .ok (.getfield 26, 3) := by decide +kernel
theorem dX6_turnOver_26 : decode cX6_turnOver 26 = .ok (.iload_n 2, 1) := by decide +kernel
theorem dX6_turnOver_27 : decode cX6_turnOver 27 = .ok (.aload_n 0, 1) := by decide +kernel
theorem dX6_turnOver_28 : decode cX6_turnOver 28 = .ok (.getfield 26, 3) := by decide +kernel
theorem dX6_turnOver_31 : decode cX6_turnOver 31 = .ok (.iload 4, 2) := by decide +kernel
theorem dX6_turnOver_33 : decode cX6_turnOver 33 = .ok (.iaload, 1) := by decide +kernel
theorem dX6_turnOver_34 : decode cX6_turnOver 34 = .ok (.iastore, 1) := by decide +kernel
theorem dX6_turnOver_35 : decode cX6_turnOver 35 = .ok (.iload 4, 2) := by decide +kernel
theorem dX6_turnOver_37 : decode cX6_turnOver 37 = .ok (.istore_n 2, 1) := by decide +kernel
theorem dX6_turnOver_38 : decode cX6_turnOver 38 = .ok (.iinc 3 1, 3) := by decide +kernel
theorem dX6_turnOver_41 : decode cX6_turnOver 41 = .ok (.goto (-37), 3) := by decide +kernel
theorem dX6_turnOver_44 : decode cX6_turnOver 44 = .ok (.return_, 1) := by decide +kernel
theorem zy_X6_turnOver : zYv yX6_turnOver cX6_turnOver 5 none 1 := ⟨zw_602, zws_10, zw_4, zw_603, by decide, by decide, by decide⟩
theorem c_X6_turnOver_b4 {C : zC} {I : Nat → Nat → Int32} {J : Nat → Nat → Int64} {Rr : Nat → Nat → Option Nat} {D : zD} (N : Nat) (a1 : Int32) (v_cameFrom : (Nat → Int32)) (e_v_cameFrom : I 30 = v_cameFrom) (y_v_rowOf : (Nat → Int32)) (E : zE C RX6 cX6_turnOver 5 none ({ frames := 0, cells := 0, slots := 0, locals := 0 } : Room)) (hQ : C.Q = zQv C ({ frames := 0, cells := 0, slots := 0, locals := 0 } : Room) ((va_up I 29 y_v_rowOf), J, Rr, D))  : ∀ (n9 : Nat) (x2 : Int32) (x3 : Int32) (v_rowOf : (Nat → Int32)), pMatcher_turnOver_b4 N a1 v_cameFrom n9 x2 x3 v_rowOf = some y_v_rowOf → zB C (0, 0) 4 [(0, .ref (C.X.1 + 13)), (2, .int x2), (3, .int x3)] [] ((va_up I 29 v_rowOf), J, Rr, D) := by
  refine zlp3_ind (P := fun (x2 : Int32) (x3 : Int32) (v_rowOf : (Nat → Int32)) => zB C (0, 0) 4 [(0, .ref (C.X.1 + 13)), (2, .int x2), (3, .int x3)] [] ((va_up I 29 v_rowOf), J, Rr, D)) (fun self ih => ?_)
  intro x2 x3 v_rowOf h
  refine zb_iload_n E dX6_turnOver_4 2 rfl rfl ?_
  refine zb_bipush E dX6_turnOver_5 (v := 20) rfl ?_
  refine zb_icmp_gt E dX6_turnOver_7 (tgt := 44) rfl (fun hc => ?_) (fun hc => ?_)
  · have h := if_t h hc
    obtain rfl := zinj1 h
    exact zb_vret E hQ rfl (by decide) dX6_turnOver_44
  · have h := if_f h hc
    refine zb_iload_n E dX6_turnOver_10 1 rfl rfl ?_
    refine zb_if_eq E dX6_turnOver_11 (tgt := 44) rfl (fun hc => ?_) (fun hc => ?_)
    · have h := if_t h hc
      obtain rfl := zinj1 h
      exact zb_vret E hQ rfl (by decide) dX6_turnOver_44
    · have h := if_f h hc
      refine zb_aload_n E dX6_turnOver_14 0 rfl rfl ?_
      refine zb_get E 13 (by decide) (zF_13 C.X) rfl zin6 5 (by decide) zw_65 (v := .ref (C.X.1 + 30)) rfl dX6_turnOver_15 ?_
      refine zb_iload_n E dX6_turnOver_18 1 rfl rfl ?_
      obtain ⟨g1, h⟩ := gd_s h
      refine zb_iald E 30 (by decide) zF_30 (f := v_cameFrom) (by exact e_v_cameFrom) (ib_in g1) dX6_turnOver_19 ?_
      refine zb_istore E dX6_turnOver_20 (by decide) (lv2 := [(4, .int (v_cameFrom (ix x2))), (0, .ref (C.X.1 + 13)), (2, .int x2), (3, .int x3)]) rfl ?_
      refine zb_aload_n E dX6_turnOver_22 1 rfl rfl ?_
      refine zb_get E 13 (by decide) (zF_13 C.X) rfl zin6 4 (by decide) zw_64 (v := .ref (C.X.1 + 29)) rfl dX6_turnOver_23 ?_
      refine zb_iload_n E dX6_turnOver_26 2 rfl rfl ?_
      refine zb_aload_n E dX6_turnOver_27 1 rfl rfl ?_
      refine zb_get E 13 (by decide) (zF_13 C.X) rfl zin6 4 (by decide) zw_64 (v := .ref (C.X.1 + 29)) rfl dX6_turnOver_28 ?_
      refine zb_iload E dX6_turnOver_31 0 rfl ?_
      obtain ⟨g2, h⟩ := gd_s h
      refine zb_iald E 29 (by decide) zF_29 (f := v_rowOf) rfl (ib_in g2) dX6_turnOver_33 ?_
      refine zb_iast E 29 (by decide) zF_29 (f := v_rowOf) rfl (ib_in g1) dX6_turnOver_34 (I2 := (va_up I 29 (upd v_rowOf (ix x2) (v_rowOf (ix (v_cameFrom (ix x2))))))) zn1 ?_
      refine zb_iload E dX6_turnOver_35 0 rfl ?_
      refine zb_istore_n E dX6_turnOver_37 rfl (by decide) (lv2 := [(2, .int (v_cameFrom (ix x2))), (4, .int (v_cameFrom (ix x2))), (0, .ref (C.X.1 + 13)), (3, .int x3)]) rfl ?_
      refine zb_iinc E dX6_turnOver_38 3 rfl (v := (x3 + 1)) rfl (by decide) (lv2 := [(3, .int (x3 + 1)), (2, .int (v_cameFrom (ix x2))), (4, .int (v_cameFrom (ix x2))), (0, .ref (C.X.1 + 13))]) rfl ?_
      refine zb_goto E dX6_turnOver_41 (tgt := 4) rfl ?_
      refine zb_sub [3, 1, 0] rfl ?_
      exact ih (v_cameFrom (ix x2)) (x3 + 1) (upd v_rowOf (ix x2) (v_rowOf (ix (v_cameFrom (ix x2))))) h
theorem c_X6_turnOver_0 {C : zC} {I : Nat → Nat → Int32} {J : Nat → Nat → Int64} {Rr : Nat → Nat → Option Nat} {D : zD} (N : Nat) (a1 : Int32) (v_cameFrom : (Nat → Int32)) (e_v_cameFrom : I 30 = v_cameFrom) (y_v_rowOf : (Nat → Int32)) (E : zE C RX6 cX6_turnOver 5 none ({ frames := 0, cells := 0, slots := 0, locals := 0 } : Room)) (hQ : C.Q = zQv C ({ frames := 0, cells := 0, slots := 0, locals := 0 } : Room) ((va_up I 29 y_v_rowOf), J, Rr, D)) (v_rowOf : (Nat → Int32)) (h : pMatcher_turnOver N a1 v_cameFrom v_rowOf = some y_v_rowOf) : zB C (0, 0) 0 [(0, .ref (C.X.1 + 13)), (1, .int a1)] [] ((va_up I 29 v_rowOf), J, Rr, D) := by
  refine zb_iload_n E dX6_turnOver_0 1 rfl rfl ?_
  refine zb_istore_n E dX6_turnOver_1 rfl (by decide) (lv2 := [(2, .int a1), (0, .ref (C.X.1 + 13)), (1, .int a1)]) rfl ?_
  refine zb_iconst E dX6_turnOver_2 (v := 0) rfl ?_
  refine zb_istore_n E dX6_turnOver_3 rfl (by decide) (lv2 := [(3, .int 0), (2, .int a1), (0, .ref (C.X.1 + 13)), (1, .int a1)]) rfl ?_
  refine zb_sub [2, 1, 0] rfl ?_
  exact c_X6_turnOver_b4 N a1 v_cameFrom e_v_cameFrom y_v_rowOf E hQ _ a1 0 v_rowOf h
theorem c_X6_turnOver {l : Launch} {X : zX} {I : Nat → Nat → Int32} {J : Nat → Nat → Int64} {Rr : Nat → Nat → Option Nat} {D : zD} {N : Nat} {a1 : Int32} (v_cameFrom : (Nat → Int32)) (e_v_cameFrom : I 30 = v_cameFrom) (v_rowOf : (Nat → Int32)) (e_v_rowOf : I 29 = v_rowOf) {y_v_rowOf : (Nat → Int32)} (h : pMatcher_turnOver N a1 v_cameFrom v_rowOf = some y_v_rowOf) : zMv l yX6_turnOver cX6_turnOver 5 none ({ frames := 0, cells := 0, slots := 0, locals := 0 } : Room) X [.ref (X.1 + 13), .int a1] (I, J, Rr, D) ((va_up I 29 y_v_rowOf), J, Rr, D) := by
  refine zMv.of (by decide) (Nat.le_of_ble_eq_true rfl) (fun C E hl hX hQ => ?_)
  subst hl
  subst hX
  have eI0 : (va_up I 29 v_rowOf) = I := by rw [zup_idE e_v_rowOf]
  have eJ0 : J = J := rfl
  refine zb_S (S2 := ((va_up I 29 v_rowOf), J, Rr, D)) (zS_eq eI0.symm eJ0.symm) ?_
  exact c_X6_turnOver_0 N a1 v_cameFrom e_v_cameFrom y_v_rowOf E hQ v_rowOf h
-- ChequeredCloth$Matcher.foilOf
abbrev R_pMatcher_foilOf : Type := Int32
def pMatcher_foilOf (a1 : Int32) (v_mates : (Nat → Int32)) : Option R_pMatcher_foilOf :=
  bd1 (pK_isStick a1) fun rc1 =>
  if rc1 = 0 then
    some (-1)
  else
    gd (ib a1 10) <|
    some (v_mates (ix a1))
theorem dX6_foilOf_0 : decode cX6_foilOf 0 = .ok (.iload_n 1, 1) := by decide +kernel
theorem dX6_foilOf_1 : decode cX6_foilOf 1 = .ok (.invokestatic 49, 3) := by decide +kernel
theorem dX6_foilOf_4 : decode cX6_foilOf 4 = .ok (.ifCond .eq 12, 3) := by decide +kernel
theorem dX6_foilOf_7 : decode cX6_foilOf 7 = .ok (.aload_n 0, 1) := by decide +kernel
theorem dX6_foilOf_8 : decode cX6_foilOf 8 = .ok (.getfield 37, 3) := by decide +kernel
theorem dX6_foilOf_11 : decode cX6_foilOf 11 = .ok (.iload_n 1, 1) := by decide +kernel
theorem dX6_foilOf_12 : decode cX6_foilOf 12 = .ok (.iaload, 1) := by decide +kernel
theorem dX6_foilOf_13 : decode cX6_foilOf 13 = .ok (.goto 4, 3) := by decide +kernel
theorem dX6_foilOf_16 : decode cX6_foilOf 16 = .ok (.iconst (-1), 1) := by decide +kernel
theorem dX6_foilOf_17 : decode cX6_foilOf 17 = .ok (.ireturn, 1) := by decide +kernel
theorem zy_X6_foilOf : zYv yX6_foilOf cX6_foilOf 2 (some .int) 1 := ⟨zw_605, zw_606, zw_4, zw_607, by decide, by decide, by decide⟩
theorem c_X6_foilOf_0 {C : zC} {I : Nat → Nat → Int32} {J : Nat → Nat → Int64} {Rr : Nat → Nat → Option Nat} {D : zD} (a1 : Int32) (v_mates : (Nat → Int32)) (e_v_mates : I 32 = v_mates) (rr : Int32) (E : zE C RX6 cX6_foilOf 2 (some .int) ({ frames := 1, cells := 0, slots := 0, locals := 20 } : Room)) (hQ : C.Q = zQi C ({ frames := 1, cells := 0, slots := 0, locals := 20 } : Room) rr (I, J, Rr, D)) (h : pMatcher_foilOf a1 v_mates = some rr) : zB C (0, 0) 0 [(0, .ref (C.X.1 + 13)), (1, .int a1)] [] (I, J, Rr, D) := by
  refine zb_iload_n E dX6_foilOf_0 1 rfl rfl ?_
  obtain ⟨rc1, hc_1, h⟩ := bd1_s h
  refine zb_cSNi E [.int a1] zy_X11_isStick znw_16 (c_X11_isStick hc_1) (by decide) rfl rfl (by first | decide | simp [Value.category]) dX6_foilOf_1 (cs2 := (0, 0)) rfl ?_
  refine zb_if_eq E dX6_foilOf_4 (tgt := 16) rfl (fun hc => ?_) (fun hc => ?_)
  · have h := if_t h hc
    refine zb_iconst E dX6_foilOf_16 (v := (-1)) rfl ?_
    obtain rfl := zinj1 h
    exact zb_iret E hQ rfl (by decide) dX6_foilOf_17
  · have h := if_f h hc
    refine zb_aload_n E dX6_foilOf_7 0 rfl rfl ?_
    refine zb_get E 13 (by decide) (zF_13 C.X) rfl zin6 7 (by decide) zw_67 (v := .ref (C.X.1 + 32)) rfl dX6_foilOf_8 ?_
    refine zb_iload_n E dX6_foilOf_11 1 rfl rfl ?_
    obtain ⟨g2, h⟩ := gd_s h
    refine zb_iald E 32 (by decide) zF_32 (f := v_mates) (by exact e_v_mates) (ib_in g2) dX6_foilOf_12 ?_
    refine zb_goto E dX6_foilOf_13 (tgt := 17) rfl ?_
    obtain rfl := zinj1 h
    exact zb_iret E hQ rfl (by decide) dX6_foilOf_17
theorem c_X6_foilOf {l : Launch} {X : zX} {I : Nat → Nat → Int32} {J : Nat → Nat → Int64} {Rr : Nat → Nat → Option Nat} {D : zD} {a1 : Int32} (v_mates : (Nat → Int32)) (e_v_mates : I 32 = v_mates) {rr : Int32} (h : pMatcher_foilOf a1 v_mates = some rr) : zMi l yX6_foilOf cX6_foilOf 2 (some .int) ({ frames := 1, cells := 0, slots := 0, locals := 20 } : Room) X [.ref (X.1 + 13), .int a1] (I, J, Rr, D) rr (I, J, Rr, D) := by
  refine zMi.of (by decide) (Nat.le_of_ble_eq_true rfl) (fun C E hl hX hQ => ?_)
  subst hl
  subst hX
  have eI0 : I = I := rfl
  have eJ0 : J = J := rfl
  refine zb_S (S2 := (I, J, Rr, D)) (zS_eq eI0.symm eJ0.symm) ?_
  exact c_X6_foilOf_0 a1 v_mates e_v_mates rr E hQ h
