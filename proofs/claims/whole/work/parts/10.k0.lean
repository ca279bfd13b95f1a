set_option maxHeartbeats 4000000
set_option maxRecDepth 100000
-- java/lang/Math.floorDiv
theorem dJ9_floorDiv_7cf53_0 : decode cJ9_floorDiv_7cf53 0 = .ok (.iload_n 0, 1) := by decide +kernel
theorem dJ9_floorDiv_7cf53_1 : decode cJ9_floorDiv_7cf53 1 = .ok (.iload_n 1, 1) := by decide +kernel
theorem dJ9_floorDiv_7cf53_2 : decode cJ9_floorDiv_7cf53 2 = .ok (.idiv, 1) := by decide +kernel
theorem dJ9_floorDiv_7cf53_3 : decode cJ9_floorDiv_7cf53 3 = .ok (.istore_n 2, 1) := by decide +kernel
theorem dJ9_floorDiv_7cf53_4 : decode cJ9_floorDiv_7cf53 4 = .ok (.iload_n 0, 1) := by decide +kernel
theorem dJ9_floorDiv_7cf53_5 : decode cJ9_floorDiv_7cf53 5 = .ok (.iload_n 1, 1) := by decide +kernel
theorem dJ9_floorDiv_7cf53_6 : decode cJ9_floorDiv_7cf53 6 = .ok (.ixor, 1) := by decide +kernel
theorem dJ9_floorDiv_7cf53_7 : decode cJ9_floorDiv_7cf53 7 = .ok (.ifCond .ge 14, 3) := by decide +kernel
theorem dJ9_floorDiv_7cf53_10 : decode cJ9_floorDiv_7cf53 10 = .ok (.iload_n 2, 1) := by decide +kernel
theorem dJ9_floorDiv_7cf53_11 : decode cJ9_floorDiv_7cf53 11 = .ok (.iload_n 1, 1) := by decide +kernel
theorem dJ9_floorDiv_7cf53_12 : decode cJ9_floorDiv_7cf53 12 = .ok (.imul, 1) := by decide +kernel
theorem dJ9_floorDiv_7cf53_13 : decode cJ9_floorDiv_7cf53 13 = .ok (.iload_n 0, 1) := by decide +kernel
theorem dJ9_floorDiv_7cf53_14 : decode cJ9_floorDiv_7cf53 14 = .ok (.if_icmp .eq 7, 3) := by decide +kernel
theorem dJ9_floorDiv_7cf53_17 : decode cJ9_floorDiv_7cf53 17 = .ok (.iload_n 2, 1) := by decide +kernel
theorem dJ9_floorDiv_7cf53_18 : decode cJ9_floorDiv_7cf53 18 = .ok (.iconst 1, 1) := by decide +kernel
theorem dJ9_floorDiv_7cf53_19 : decode cJ9_floorDiv_7cf53 19 = .ok (.isub, 1) := by decide +kernel
theorem dJ9_floorDiv_7cf53_20 : decode cJ9_floorDiv_7cf53 20 = .ok (.ireturn, 1) := by decide +kernel
theorem dJ9_floorDiv_7cf53_21 : decode cJ9_floorDiv_7cf53 21 = .ok (.iload_n 2, 1) := by decide +kernel
theorem dJ9_floorDiv_7cf53_22 : decode cJ9_floorDiv_7cf53 22 = .ok (.ireturn, 1) := by decide +kernel
theorem zy_J9_floorDiv_7cf53 : zYs yJ9_floorDiv_7cf53 cJ9_floorDiv_7cf53 3 (some .int) 2 := ⟨zw_472, zw_14, zw_473, by decide, by decide, by decide⟩
theorem c_J9_floorDiv_7cf53_0 {C : zC} {I : Nat → Nat → Int32} {J : Nat → Nat → Int64} {Rr : Nat → Nat → Option Nat} {D : zD} (a0 : Int32) (a1 : Int32) (rr : Int32) (E : zE C RJ9 cJ9_floorDiv_7cf53 3 (some .int) ({ frames := 0, cells := 0, slots := 0, locals := 0 } : Room)) (hQ : C.Q = zQi C ({ frames := 0, cells := 0, slots := 0, locals := 0 } : Room) rr (I, J, Rr, D)) (h : pJMath_floorDiv a0 a1 = some rr) : zB C (0, 0) 0 [(0, .int a0), (1, .int a1)] [] (I, J, Rr, D) := by
  refine zb_iload_n E dJ9_floorDiv_7cf53_0 0 rfl rfl ?_
  refine zb_iload_n E dJ9_floorDiv_7cf53_1 1 rfl rfl ?_
  obtain ⟨g1, h⟩ := gd_s h
  refine zb_idiv E dJ9_floorDiv_7cf53_2 (nz_i g1) ?_
  refine zb_istore_n E dJ9_floorDiv_7cf53_3 rfl (by decide) (lv2 := [(2, .int (a0 / a1)), (0, .int a0), (1, .int a1)]) rfl ?_
  refine zb_iload_n E dJ9_floorDiv_7cf53_4 1 rfl rfl ?_
  refine zb_iload_n E dJ9_floorDiv_7cf53_5 2 rfl rfl ?_
  refine zb_ixor E dJ9_floorDiv_7cf53_6 ?_
  refine zb_if_ge E dJ9_floorDiv_7cf53_7 (tgt := 21) rfl (fun hc => ?_) (fun hc => ?_)
  · have h := if_t h hc
    refine zb_iload_n E dJ9_floorDiv_7cf53_21 0 rfl rfl ?_
    obtain rfl := zinj1 h
    exact zb_iret E hQ rfl ⟨Nat.zero_le _, Nat.zero_le _⟩ dJ9_floorDiv_7cf53_22
  · have h := if_f h hc
    refine zb_iload_n E dJ9_floorDiv_7cf53_10 0 rfl rfl ?_
    refine zb_iload_n E dJ9_floorDiv_7cf53_11 2 rfl rfl ?_
    refine zb_imul E dJ9_floorDiv_7cf53_12 ?_
    refine zb_iload_n E dJ9_floorDiv_7cf53_13 1 rfl rfl ?_
    refine zb_icmp_eq E dJ9_floorDiv_7cf53_14 (tgt := 21) rfl (fun hc => ?_) (fun hc => ?_)
    · have h := if_t h hc
      refine zb_iload_n E dJ9_floorDiv_7cf53_21 0 rfl rfl ?_
      obtain rfl := zinj1 h
      exact zb_iret E hQ rfl ⟨Nat.zero_le _, Nat.zero_le _⟩ dJ9_floorDiv_7cf53_22
    · have h := if_f h hc
      refine zb_iload_n E dJ9_floorDiv_7cf53_17 0 rfl rfl ?_
      refine zb_iconst E dJ9_floorDiv_7cf53_18 (v := 1) rfl ?_
      refine zb_isub E dJ9_floorDiv_7cf53_19 ?_
      obtain rfl := zinj1 h
      exact zb_iret E hQ rfl ⟨Nat.zero_le _, Nat.zero_le _⟩ dJ9_floorDiv_7cf53_20
theorem c_J9_floorDiv_7cf53 {l : Launch} {X : zX} {I : Nat → Nat → Int32} {J : Nat → Nat → Int64} {Rr : Nat → Nat → Option Nat} {D : zD} {a0 : Int32} {a1 : Int32} {rr : Int32} (h : pJMath_floorDiv a0 a1 = some rr) : zMi l yJ9_floorDiv_7cf53 cJ9_floorDiv_7cf53 3 (some .int) ({ frames := 0, cells := 0, slots := 0, locals := 0 } : Room) X [.int a0, .int a1] (I, J, Rr, D) rr (I, J, Rr, D) := by
  refine zMi.ofF (by decide +kernel) (Nat.le_of_ble_eq_true rfl) (fun C E hl hX hQ => ?_)
  subst hl
  subst hX
  have eI0 : I = I := rfl
  have eJ0 : J = J := rfl
  refine zb_S (S2 := (I, J, Rr, D)) (zS_eq eI0.symm eJ0.symm) ?_
  exact c_J9_floorDiv_7cf53_0 a0 a1 rr E hQ h
-- ChequeredCloth.isStick
theorem dX11_isStick_0 : decode cX11_isStick 0 = .ok (.iload_n 0, 1) := by decide +kernel
theorem dX11_isStick_1 : decode cX11_isStick 1 = .ok (.ifCond .lt 13, 3) := by decide +kernel
theorem dX11_isStick_4 : decode cX11_isStick 4 = .ok (.iload_n 0, 1) := by decide +kernel
theorem dX11_isStick_5 : decode cX11_isStick 5 = .ok (.bipush 10, 2) := by decide +kernel
theorem dX11_isStick_7 : decode cX11_isStick 7 = .ok (.if_icmp .ge 7, 3) := by decide +kernel
theorem dX11_isStick_10 : decode cX11_isStick 10 = .ok (.iconst 1, 1) := by decide +kernel
theorem dX11_isStick_11 : decode cX11_isStick 11 = .ok (.goto 4, 3) := by decide +kernel
theorem dX11_isStick_14 : decode cX11_isStick 14 = .ok (.iconst 0, 1) := by decide +kernel
theorem dX11_isStick_15 : decode cX11_isStick 15 = .ok (.ireturn, 1) := by decide +kernel
theorem zy_X11_isStick : zYs yX11_isStick cX11_isStick 1 (some .boolean) 1 := ⟨zw_488, zw_1, zw_489, by decide, by decide, by decide⟩
theorem c_X11_isStick_0 {C : zC} {I : Nat → Nat → Int32} {J : Nat → Nat → Int64} {Rr : Nat → Nat → Option Nat} {D : zD} (a0 : Int32) (rr : Int32) (E : zE C RX11 cX11_isStick 1 (some .boolean) ({ frames := 0, cells := 0, slots := 0, locals := 0 } : Room)) (hQ : C.Q = zQi C ({ frames := 0, cells := 0, slots := 0, locals := 0 } : Room) rr (I, J, Rr, D)) (h : pK_isStick a0 = some rr) : zB C (0, 0) 0 [(0, .int a0)] [] (I, J, Rr, D) := by
  refine zb_iload_n E dX11_isStick_0 0 rfl rfl ?_
  refine zb_if_lt E dX11_isStick_1 (tgt := 14) rfl (fun hc => ?_) (fun hc => ?_)
  · have h := if_t h hc
    refine zb_iconst E dX11_isStick_14 (v := 0) rfl ?_
    obtain rfl := zinj1 h
    exact zb_zret E hQ (ty := .boolean) rfl rfl ⟨Nat.zero_le _, Nat.zero_le _⟩ dX11_isStick_15
  · have h := if_f h hc
    refine zb_iload_n E dX11_isStick_4 0 rfl rfl ?_
    refine zb_bipush E dX11_isStick_5 (v := 10) rfl ?_
    refine zb_icmp_ge E dX11_isStick_7 (tgt := 14) rfl (fun hc => ?_) (fun hc => ?_)
    · have h := if_t h hc
      refine zb_iconst E dX11_isStick_14 (v := 0) rfl ?_
      obtain rfl := zinj1 h
      exact zb_zret E hQ (ty := .boolean) rfl rfl ⟨Nat.zero_le _, Nat.zero_le _⟩ dX11_isStick_15
    · have h := if_f h hc
      refine zb_iconst E dX11_isStick_10 (v := 1) rfl ?_
      refine zb_goto E dX11_isStick_11 (tgt := 15) rfl ?_
      obtain rfl := zinj1 h
      exact zb_zret E hQ (ty := .boolean) rfl rfl ⟨Nat.zero_le _, Nat.zero_le _⟩ dX11_isStick_15
theorem c_X11_isStick {l : Launch} {X : zX} {I : Nat → Nat → Int32} {J : Nat → Nat → Int64} {Rr : Nat → Nat → Option Nat} {D : zD} {a0 : Int32} {rr : Int32} (h : pK_isStick a0 = some rr) : zMi l yX11_isStick cX11_isStick 1 (some .boolean) ({ frames := 0, cells := 0, slots := 0, locals := 0 } : Room) X [.int a0] (I, J, Rr, D) rr (I, J, Rr, D) := by
  refine zMi.of (by decide) (Nat.le_of_ble_eq_true rfl) (fun C E hl hX hQ => ?_)
  subst hl
  subst hX
  have eI0 : I = I := rfl
  have eJ0 : J = J := rfl
  refine zb_S (S2 := (I, J, Rr, D)) (zS_eq eI0.symm eJ0.symm) ?_
  exact c_X11_isStick_0 a0 rr E hQ h
-- ChequeredCloth.half
theorem dX11_half_0 : decode cX11_half 0 = .ok (.iload_n 0, 1) := by decide +kernel
theorem dX11_half_1 : decode cX11_half 1 = .ok (.ifCond .eq 10, 3) := by decide +kernel
theorem dX11_half_4 : decode cX11_half 4 = .ok (.bipush 10, 2) := by decide +kernel
theorem dX11_half_6 : decode cX11_half 6 = .ok (.iload_n 1, 1) := by decide +kernel
theorem dX11_half_7 : decode cX11_half 7 = .ok (.iadd, 1) := by decide +kernel
theorem dX11_half_8 : decode cX11_half 8 = .ok (.goto 4, 3) := by decide +kernel
theorem dX11_half_11 : decode cX11_half 11 = .ok (.iload_n 1, 1) := by decide +kernel
theorem dX11_half_12 : decode cX11_half 12 = .ok (.ireturn, 1) := by decide +kernel
theorem zy_X11_half : zYs yX11_half cX11_half 2 (some .int) 2 := ⟨zw_491, zw_1, zw_492, by decide, by decide, by decide⟩
theorem c_X11_half_0 {C : zC} {I : Nat → Nat → Int32} {J : Nat → Nat → Int64} {Rr : Nat → Nat → Option Nat} {D : zD} (a0 : Int32) (a1 : Int32) (rr : Int32) (E : zE C RX11 cX11_half 2 (some .int) ({ frames := 0, cells := 0, slots := 0, locals := 0 } : Room)) (hQ : C.Q = zQi C ({ frames := 0, cells := 0, slots := 0, locals := 0 } : Room) rr (I, J, Rr, D)) (h : pK_half a0 a1 = some rr) : zB C (0, 0) 0 [(0, .int a0), (1, .int a1)] [] (I, J, Rr, D) := by
  refine zb_iload_n E dX11_half_0 0 rfl rfl ?_
  refine zb_if_eq E dX11_half_1 (tgt := 11) rfl (fun hc => ?_) (fun hc => ?_)
  · have h := if_t h hc
    refine zb_iload_n E dX11_half_11 1 rfl rfl ?_
    obtain rfl := zinj1 h
    exact zb_iret E hQ rfl ⟨Nat.zero_le _, Nat.zero_le _⟩ dX11_half_12
  · have h := if_f h hc
    refine zb_bipush E dX11_half_4 (v := 10) rfl ?_
    refine zb_iload_n E dX11_half_6 1 rfl rfl ?_
    refine zb_iadd E dX11_half_7 ?_
    refine zb_goto E dX11_half_8 (tgt := 12) rfl ?_
    obtain rfl := zinj1 h
    exact zb_iret E hQ rfl ⟨Nat.zero_le _, Nat.zero_le _⟩ dX11_half_12
theorem c_X11_half {l : Launch} {X : zX} {I : Nat → Nat → Int32} {J : Nat → Nat → Int64} {Rr : Nat → Nat → Option Nat} {D : zD} {a0 : Int32} {a1 : Int32} {rr : Int32} (h : pK_half a0 a1 = some rr) : zMi l yX11_half cX11_half 2 (some .int) ({ frames := 0, cells := 0, slots := 0, locals := 0 } : Room) X [.int a0, .int a1] (I, J, Rr, D) rr (I, J, Rr, D) := by
  refine zMi.of (by decide) (Nat.le_of_ble_eq_true rfl) (fun C E hl hX hQ => ?_)
  subst hl
  subst hX
  have eI0 : I = I := rfl
  have eJ0 : J = J := rfl
  refine zb_S (S2 := (I, J, Rr, D)) (zS_eq eI0.symm eJ0.symm) ?_
  exact c_X11_half_0 a0 a1 rr E hQ h
-- ChequeredCloth.isTerm
theorem dX11_isTerm_0 : decode cX11_isTerm 0 = .ok (.iload_n 0, 1) := by decide +kernel
theorem dX11_isTerm_1 : decode cX11_isTerm 1 = .ok (.ifCond .lt 13, 3) := by decide +kernel
theorem dX11_isTerm_4 : decode cX11_isTerm 4 = .ok (.iload_n 0, 1) := by decide +kernel
theorem dX11_isTerm_5 : decode cX11_isTerm 5 = .ok (.bipush 40, 2) := by decide +kernel
theorem dX11_isTerm_7 : decode cX11_isTerm 7 = .ok (.if_icmp .ge 7, 3) := by decide +kernel
theorem dX11_isTerm_10 : decode cX11_isTerm 10 = .ok (.iconst 1, 1) := by decide +kernel
theorem dX11_isTerm_11 : decode cX11_isTerm 11 = .ok (.goto 4, 3) := by decide +kernel
theorem dX11_isTerm_14 : decode cX11_isTerm 14 = .ok (.iconst 0, 1) := by decide +kernel
theorem dX11_isTerm_15 : decode cX11_isTerm 15 = .ok (.ireturn, 1) := by decide +kernel
theorem zy_X11_isTerm : zYs yX11_isTerm cX11_isTerm 1 (some .boolean) 1 := ⟨zw_626, zw_1, zw_627, by decide, by decide, by decide⟩
theorem c_X11_isTerm_0 {C : zC} {I : Nat → Nat → Int32} {J : Nat → Nat → Int64} {Rr : Nat → Nat → Option Nat} {D : zD} (a0 : Int32) (rr : Int32) (E : zE C RX11 cX11_isTerm 1 (some .boolean) ({ frames := 0, cells := 0, slots := 0, locals := 0 } : Room)) (hQ : C.Q = zQi C ({ frames := 0, cells := 0, slots := 0, locals := 0 } : Room) rr (I, J, Rr, D)) (h : pK_isTerm a0 = some rr) : zB C (0, 0) 0 [(0, .int a0)] [] (I, J, Rr, D) := by
  refine zb_iload_n E dX11_isTerm_0 0 rfl rfl ?_
  refine zb_if_lt E dX11_isTerm_1 (tgt := 14) rfl (fun hc => ?_) (fun hc => ?_)
  · have h := if_t h hc
    refine zb_iconst E dX11_isTerm_14 (v := 0) rfl ?_
    obtain rfl := zinj1 h
    exact zb_zret E hQ (ty := .boolean) rfl rfl ⟨Nat.zero_le _, Nat.zero_le _⟩ dX11_isTerm_15
  · have h := if_f h hc
    refine zb_iload_n E dX11_isTerm_4 0 rfl rfl ?_
    refine zb_bipush E dX11_isTerm_5 (v := 40) rfl ?_
    refine zb_icmp_ge E dX11_isTerm_7 (tgt := 14) rfl (fun hc => ?_) (fun hc => ?_)
    · have h := if_t h hc
      refine zb_iconst E dX11_isTerm_14 (v := 0) rfl ?_
      obtain rfl := zinj1 h
      exact zb_zret E hQ (ty := .boolean) rfl rfl ⟨Nat.zero_le _, Nat.zero_le _⟩ dX11_isTerm_15
    · have h := if_f h hc
      refine zb_iconst E dX11_isTerm_10 (v := 1) rfl ?_
      refine zb_goto E dX11_isTerm_11 (tgt := 15) rfl ?_
      obtain rfl := zinj1 h
      exact zb_zret E hQ (ty := .boolean) rfl rfl ⟨Nat.zero_le _, Nat.zero_le _⟩ dX11_isTerm_15
theorem c_X11_isTerm {l : Launch} {X : zX} {I : Nat → Nat → Int32} {J : Nat → Nat → Int64} {Rr : Nat → Nat → Option Nat} {D : zD} {a0 : Int32} {rr : Int32} (h : pK_isTerm a0 = some rr) : zMi l yX11_isTerm cX11_isTerm 1 (some .boolean) ({ frames := 0, cells := 0, slots := 0, locals := 0 } : Room) X [.int a0] (I, J, Rr, D) rr (I, J, Rr, D) := by
  refine zMi.of (by decide) (Nat.le_of_ble_eq_true rfl) (fun C E hl hX hQ => ?_)
  subst hl
  subst hX
  have eI0 : I = I := rfl
  have eJ0 : J = J := rfl
  refine zb_S (S2 := (I, J, Rr, D)) (zS_eq eI0.symm eJ0.symm) ?_
  exact c_X11_isTerm_0 a0 rr E hQ h
-- ChequeredCloth.isShire
theorem dX11_isShire_0 : decode cX11_isShire 0 = .ok (.iload_n 0, 1) := by decide +kernel
theorem dX11_isShire_1 : decode cX11_isShire 1 = .ok (.ifCond .lt 13, 3) := by decide +kernel
theorem dX11_isShire_4 : decode cX11_isShire 4 = .ok (.iload_n 0, 1) := by decide +kernel
theorem dX11_isShire_5 : decode cX11_isShire 5 = .ok (.bipush 8, 2) := by decide +kernel
theorem dX11_isShire_7 : decode cX11_isShire 7 = .ok (.if_icmp .ge 7, 3) := by decide +kernel
theorem dX11_isShire_10 : decode cX11_isShire 10 = .ok (.iconst 1, 1) := by decide +kernel
theorem dX11_isShire_11 : decode cX11_isShire 11 = .ok (.goto 4, 3) := by decide +kernel
theorem dX11_isShire_14 : decode cX11_isShire 14 = .ok (.iconst 0, 1) := by decide +kernel
theorem dX11_isShire_15 : decode cX11_isShire 15 = .ok (.ireturn, 1) := by decide +kernel
theorem zy_X11_isShire : zYs yX11_isShire cX11_isShire 1 (some .boolean) 1 := ⟨zw_946, zw_1, zw_947, by decide, by decide, by decide⟩
theorem c_X11_isShire_0 {C : zC} {I : Nat → Nat → Int32} {J : Nat → Nat → Int64} {Rr : Nat → Nat → Option Nat} {D : zD} (a0 : Int32) (rr : Int32) (E : zE C RX11 cX11_isShire 1 (some .boolean) ({ frames := 0, cells := 0, slots := 0, locals := 0 } : Room)) (hQ : C.Q = zQi C ({ frames := 0, cells := 0, slots := 0, locals := 0 } : Room) rr (I, J, Rr, D)) (h : pK_isShire a0 = some rr) : zB C (0, 0) 0 [(0, .int a0)] [] (I, J, Rr, D) := by
  refine zb_iload_n E dX11_isShire_0 0 rfl rfl ?_
  refine zb_if_lt E dX11_isShire_1 (tgt := 14) rfl (fun hc => ?_) (fun hc => ?_)
  · have h := if_t h hc
    refine zb_iconst E dX11_isShire_14 (v := 0) rfl ?_
    obtain rfl := zinj1 h
    exact zb_zret E hQ (ty := .boolean) rfl rfl ⟨Nat.zero_le _, Nat.zero_le _⟩ dX11_isShire_15
  · have h := if_f h hc
    refine zb_iload_n E dX11_isShire_4 0 rfl rfl ?_
    refine zb_bipush E dX11_isShire_5 (v := 8) rfl ?_
    refine zb_icmp_ge E dX11_isShire_7 (tgt := 14) rfl (fun hc => ?_) (fun hc => ?_)
    · have h := if_t h hc
      refine zb_iconst E dX11_isShire_14 (v := 0) rfl ?_
      obtain rfl := zinj1 h
      exact zb_zret E hQ (ty := .boolean) rfl rfl ⟨Nat.zero_le _, Nat.zero_le _⟩ dX11_isShire_15
    · have h := if_f h hc
      refine zb_iconst E dX11_isShire_10 (v := 1) rfl ?_
      refine zb_goto E dX11_isShire_11 (tgt := 15) rfl ?_
      obtain rfl := zinj1 h
      exact zb_zret E hQ (ty := .boolean) rfl rfl ⟨Nat.zero_le _, Nat.zero_le _⟩ dX11_isShire_15
theorem c_X11_isShire {l : Launch} {X : zX} {I : Nat → Nat → Int32} {J : Nat → Nat → Int64} {Rr : Nat → Nat → Option Nat} {D : zD} {a0 : Int32} {rr : Int32} (h : pK_isShire a0 = some rr) : zMi l yX11_isShire cX11_isShire 1 (some .boolean) ({ frames := 0, cells := 0, slots := 0, locals := 0 } : Room) X [.int a0] (I, J, Rr, D) rr (I, J, Rr, D) := by
  refine zMi.of (by decide) (Nat.le_of_ble_eq_true rfl) (fun C E hl hX hQ => ?_)
  subst hl
  subst hX
  have eI0 : I = I := rfl
  have eJ0 : J = J := rfl
  refine zb_S (S2 := (I, J, Rr, D)) (zS_eq eI0.symm eJ0.symm) ?_
  exact c_X11_isShire_0 a0 rr E hQ h
-- java/lang/Math.floorDiv
theorem dJ9_floorDiv_f86c9_0 : decode cJ9_floorDiv_f86c9 0 = .ok (.lload_n 0, 1) := by decide +kernel
theorem dJ9_floorDiv_f86c9_1 : decode cJ9_floorDiv_f86c9 1 = .ok (.lload_n 2, 1) := by decide +kernel
theorem dJ9_floorDiv_f86c9_2 : decode cJ9_floorDiv_f86c9 2 = .ok (.ldiv, 1) := by decide +kernel
theorem dJ9_floorDiv_f86c9_3 : decode cJ9_floorDiv_f86c9 3 = .ok (.lstore 4, 2) := by decide +kernel
theorem dJ9_floorDiv_f86c9_5 : decode cJ9_floorDiv_f86c9 5 = .ok (.lload_n 0, 1) := by decide +kernel
theorem dJ9_floorDiv_f86c9_6 : decode cJ9_floorDiv_f86c9 6 = .ok (.lload_n 2, 1) := by decide +kernel
theorem dJ9_floorDiv_f86c9_7 : decode cJ9_floorDiv_f86c9 7 = .ok (.lxor, 1) := by decide +kernel
theorem dJ9_floorDiv_f86c9_8 : decode cJ9_floorDiv_f86c9 8 = .ok (.lconst 0, 1) := by decide +kernel
theorem dJ9_floorDiv_f86c9_9 : decode cJ9_floorDiv_f86c9 9 = .ok (.lcmp, 1) := by decide +kernel
theorem dJ9_floorDiv_f86c9_10 : decode cJ9_floorDiv_f86c9 10 = .ok (.ifCond .ge 17, 3) := by decide +kernel
theorem dJ9_floorDiv_f86c9_13 : decode cJ9_floorDiv_f86c9 13 = .ok (.lload 4, 2) := by decide +kernel
theorem dJ9_floorDiv_f86c9_15 : decode cJ9_floorDiv_f86c9 15 = .ok (.lload_n 2, 1) := by decide +kernel
theorem dJ9_floorDiv_f86c9_16 : decode cJ9_floorDiv_f86c9 16 = .ok (.lmul, 1) := by decide +kernel
theorem dJ9_floorDiv_f86c9_17 : decode cJ9_floorDiv_f86c9 17 = .ok (.lload_n 0, 1) := by decide +kernel
theorem dJ9_floorDiv_f86c9_18 : decode cJ9_floorDiv_f86c9 18 = .ok (.lcmp, 1) := by decide +kernel
theorem dJ9_floorDiv_f86c9_19 : decode cJ9_floorDiv_f86c9 19 = .ok (.ifCond .eq 8, 3) := by decide +kernel
theorem dJ9_floorDiv_f86c9_22 : decode cJ9_floorDiv_f86c9 22 = .ok (.lload 4, 2) := by decide +kernel
theorem dJ9_floorDiv_f86c9_24 : decode cJ9_floorDiv_f86c9 24 = .ok (.lconst 1, 1) := by decide +kernel
theorem dJ9_floorDiv_f86c9_25 : decode cJ9_floorDiv_f86c9 25 = .ok (.lsub, 1) := by decide +kernel
theorem dJ9_floorDiv_f86c9_26 : decode cJ9_floorDiv_f86c9 26 = .ok (.lreturn, 1) := by decide +kernel
theorem dJ9_floorDiv_f86c9_27 : decode cJ9_floorDiv_f86c9 27 = .ok (.lload 4, 2) := by decide +kernel
theorem dJ9_floorDiv_f86c9_29 : decode cJ9_floorDiv_f86c9 29 = .ok (.lreturn, 1) := by decide +kernel
theorem zy_J9_floorDiv_f86c9 : zYs yJ9_floorDiv_f86c9 cJ9_floorDiv_f86c9 6 (some .long) 2 := ⟨zw_1023, zw_14, zw_1024, by decide, by decide, by decide⟩
theorem c_J9_floorDiv_f86c9_0 {C : zC} {I : Nat → Nat → Int32} {J : Nat → Nat → Int64} {Rr : Nat → Nat → Option Nat} {D : zD} (a0 : Int64) (a2 : Int64) (rr : Int64) (E : zE C RJ9 cJ9_floorDiv_f86c9 6 (some .long) ({ frames := 0, cells := 0, slots := 0, locals := 0 } : Room)) (hQ : C.Q = zQl C ({ frames := 0, cells := 0, slots := 0, locals := 0 } : Room) rr (I, J, Rr, D)) (h : pJMath_floorDivL a0 a2 = some rr) : zB C (0, 0) 0 [(0, .long a0), (2, .long a2)] [] (I, J, Rr, D) := by
  refine zb_lload_n E dJ9_floorDiv_f86c9_0 0 rfl rfl ?_
  refine zb_lload_n E dJ9_floorDiv_f86c9_1 1 rfl rfl ?_
  obtain ⟨g1, h⟩ := gd_s h
  refine zb_ldiv E dJ9_floorDiv_f86c9_2 (nz_l g1) ?_
  refine zb_lstore E dJ9_floorDiv_f86c9_3 (by decide) (lv2 := [(4, .long (a0 / a2)), (0, .long a0), (2, .long a2)]) rfl ?_
  refine zb_lload_n E dJ9_floorDiv_f86c9_5 1 rfl rfl ?_
  refine zb_lload_n E dJ9_floorDiv_f86c9_6 2 rfl rfl ?_
  refine zb_lxor E dJ9_floorDiv_f86c9_7 ?_
  refine zb_lconst E dJ9_floorDiv_f86c9_8 (v := 0) rfl ?_
  refine zb_lcmp E dJ9_floorDiv_f86c9_9 ?_
  refine zb_if_ge E dJ9_floorDiv_f86c9_10 (tgt := 27) rfl (fun hc => ?_) (fun hc => ?_)
  · have h := if_t h hc
    refine zb_lload E dJ9_floorDiv_f86c9_27 0 rfl ?_
    obtain rfl := zinj1 h
    exact zb_lret E hQ rfl ⟨Nat.zero_le _, Nat.zero_le _⟩ dJ9_floorDiv_f86c9_29
  · have h := if_f h hc
    refine zb_lload E dJ9_floorDiv_f86c9_13 0 rfl ?_
    refine zb_lload_n E dJ9_floorDiv_f86c9_15 2 rfl rfl ?_
    refine zb_lmul E dJ9_floorDiv_f86c9_16 ?_
    refine zb_lload_n E dJ9_floorDiv_f86c9_17 1 rfl rfl ?_
    refine zb_lcmp E dJ9_floorDiv_f86c9_18 ?_
    refine zb_if_eq E dJ9_floorDiv_f86c9_19 (tgt := 27) rfl (fun hc => ?_) (fun hc => ?_)
    · have h := if_t h hc
      refine zb_lload E dJ9_floorDiv_f86c9_27 0 rfl ?_
      obtain rfl := zinj1 h
      exact zb_lret E hQ rfl ⟨Nat.zero_le _, Nat.zero_le _⟩ dJ9_floorDiv_f86c9_29
    · have h := if_f h hc
      refine zb_lload E dJ9_floorDiv_f86c9_22 0 rfl ?_
      refine zb_lconst E dJ9_floorDiv_f86c9_24 (v := 1) rfl ?_
      refine zb_lsub E dJ9_floorDiv_f86c9_25 ?_
      obtain rfl := zinj1 h
      exact zb_lret E hQ rfl ⟨Nat.zero_le _, Nat.zero_le _⟩ dJ9_floorDiv_f86c9_26
theorem c_J9_floorDiv_f86c9 {l : Launch} {X : zX} {I : Nat → Nat → Int32} {J : Nat → Nat → Int64} {Rr : Nat → Nat → Option Nat} {D : zD} {a0 : Int64} {a2 : Int64} {rr : Int64} (h : pJMath_floorDivL a0 a2 = some rr) : zMl l yJ9_floorDiv_f86c9 cJ9_floorDiv_f86c9 6 (some .long) ({ frames := 0, cells := 0, slots := 0, locals := 0 } : Room) X [.long a0, .long a2] (I, J, Rr, D) rr (I, J, Rr, D) := by
  refine zMl.ofF (by decide +kernel) (Nat.le_of_ble_eq_true rfl) (fun C E hl hX hQ => ?_)
  subst hl
  subst hX
  have eI0 : I = I := rfl
  have eJ0 : J = J := rfl
  refine zb_S (S2 := (I, J, Rr, D)) (zS_eq eI0.symm eJ0.symm) ?_
  exact c_J9_floorDiv_f86c9_0 a0 a2 rr E hQ h
