set_option maxHeartbeats 4000000
set_option maxRecDepth 100000
-- ChequeredCloth.isStick
abbrev R_pK_isStick : Type := Int32
def pK_isStick (a0 : Int32) : Option R_pK_isStick :=
  if a0 < 0 then
    some 0
  else
    if 10 ≤ a0 then
      some 0
    else
      some 1
theorem dX11_isStick_0 : decode cX11_isStick 0 = .ok (.iload_n 0, 1) := by decide +kernel
theorem dX11_isStick_1 : decode cX11_isStick 1 = .ok (.ifCond .lt 13, 3) := by decide +kernel
theorem dX11_isStick_4 : decode cX11_isStick 4 = .ok (.iload_n 0, 1) := by decide +kernel
theorem dX11_isStick_5 : decode cX11_isStick 5 = .ok (.bipush 10, 2) := by decide +kernel
theorem dX11_isStick_7 : decode cX11_isStick 7 = .ok (.if_icmp .ge 7, 3) := by decide +kernel
theorem dX11_isStick_10 : decode cX11_isStick 10 = .ok (.iconst 1, 1) := by decide +kernel
theorem dX11_isStick_11 : decode cX11_isStick 11 = .ok (.goto 4, 3) := by decide +kernel
theorem dX11_isStick_14 : decode cX11_isStick 14 = .ok (.iconst 0, 1) := by decide +kernel
theorem dX11_isStick_15 : decode cX11_isStick 15 = .ok (.ireturn, 1) := by decide +kernel
theorem zy_X11_isStick : zYs yX11_isStick cX11_isStick 1 (some .boolean) 1 := ⟨zw_488, zw_1, zw_489, by decide, by decide, by decide⟩
theorem c_X11_isStick_0 {C : zC} {I : Nat → Nat → Int32} {J : Nat → Nat → Int64} {Rr : Nat → Nat → Option Nat} {D : zD} (a0 : Int32) (rr : Int32) (E : zE C RX11 cX11_isStick 1 (some .boolean) ({ frames := 0, cells := 0, slots := 0, locals := 0 } : Room)) (hQ : C.Q = zQi C ({ frames := 0, cells := 0, slots := 0, locals := 0 } : Room) rr (I, J, Rr, D)) (h : pK_isStick a0 = some rr) : zB C (0, 0) 0 [(0, .int a0)] [] (I, J, Rr, D) := by
  refine zb_iload_n E dX11_isStick_0 0 rfl rfl ?_
  refine zb_if_lt E dX11_isStick_1 (tgt := 14) rfl (fun hc => ?_) (fun hc => ?_)
  · have h := if_t h hc
    refine zb_iconst E dX11_isStick_14 (v := 0) rfl ?_
    obtain rfl := zinj1 h
    exact zb_zret E hQ (ty := .boolean) rfl rfl (by decide) dX11_isStick_15
  · have h := if_f h hc
    refine zb_iload_n E dX11_isStick_4 0 rfl rfl ?_
    refine zb_bipush E dX11_isStick_5 (v := 10) rfl ?_
    refine zb_icmp_ge E dX11_isStick_7 (tgt := 14) rfl (fun hc => ?_) (fun hc => ?_)
    · have h := if_t h hc
      refine zb_iconst E dX11_isStick_14 (v := 0) rfl ?_
      obtain rfl := zinj1 h
      exact zb_zret E hQ (ty := .boolean) rfl rfl (by decide) dX11_isStick_15
    · have h := if_f h hc
      refine zb_iconst E dX11_isStick_10 (v := 1) rfl ?_
      refine zb_goto E dX11_isStick_11 (tgt := 15) rfl ?_
      obtain rfl := zinj1 h
      exact zb_zret E hQ (ty := .boolean) rfl rfl (by decide) dX11_isStick_15
theorem c_X11_isStick {l : Launch} {X : zX} {I : Nat → Nat → Int32} {J : Nat → Nat → Int64} {Rr : Nat → Nat → Option Nat} {D : zD} {a0 : Int32} {rr : Int32} (h : pK_isStick a0 = some rr) : zMi l yX11_isStick cX11_isStick 1 (some .boolean) ({ frames := 0, cells := 0, slots := 0, locals := 0 } : Room) X [.int a0] (I, J, Rr, D) rr (I, J, Rr, D) := by
  refine zMi.of (by decide) (Nat.le_of_ble_eq_true rfl) (fun C E hl hX hQ => ?_)
  subst hl
  subst hX
  have eI0 : I = I := rfl
  have eJ0 : J = J := rfl
  refine zb_S (S2 := (I, J, Rr, D)) (zS_eq eI0.symm eJ0.symm) ?_
  exact c_X11_isStick_0 a0 rr E hQ h
-- ChequeredCloth.half
abbrev R_pK_half : Type := Int32
def pK_half (a0 : Int32) (a1 : Int32) : Option R_pK_half :=
  if a0 = 0 then
    some a1
  else
    some (10 + a1)
theorem dX11_half_0 : decode cX11_half 0 = .ok (.iload_n 0, 1) := by decide +kernel
theorem dX11_half_1 : decode cX11_half 1 = .ok (.ifCond .eq 10, 3) := by decide +kernel
theorem dX11_half_4 : decode cX11_half 4 = .ok (.bipush 10, 2) := by decide +kernel
theorem dX11_half_6 : decode cX11_half 6 = .ok (.iload_n 1, 1) := by decide +kernel
theorem dX11_half_7 : decode cX11_half 7 = .ok (.iadd, 1) := by decide +kernel
theorem dX11_half_8 : decode cX11_half 8 = .ok (.goto 4, 3) := by decide +kernel
theorem dX11_half_11 : decode cX11_half 11 = .ok (.iload_n 1, 1) := by decide +kernel
theorem dX11_half_12 : decode cX11_half 12 = .ok (.ireturn, 1) := by decide +kernel
theorem zy_X11_half : zYs yX11_half cX11_half 2 (some .int) 2 := ⟨zw_491, zw_1, zw_492, by decide, by decide, by decide⟩
theorem c_X11_half_0 {C : zC} {I : Nat → Nat → Int32} {J : Nat → Nat → Int64} {Rr : Nat → Nat → Option Nat} {D : zD} (a0 : Int32) (a1 : Int32) (rr : Int32) (E : zE C RX11 cX11_half 2 (some .int) ({ frames := 0, cells := 0, slots := 0, locals := 0 } : Room)) (hQ : C.Q = zQi C ({ frames := 0, cells := 0, slots := 0, locals := 0 } : Room) rr (I, J, Rr, D)) (h : pK_half a0 a1 = some rr) : zB C (0, 0) 0 [(0, .int a0), (1, .int a1)] [] (I, J, Rr, D) := by
  refine zb_iload_n E dX11_half_0 0 rfl rfl ?_
  refine zb_if_eq E dX11_half_1 (tgt := 11) rfl (fun hc => ?_) (fun hc => ?_)
  · have h := if_t h hc
    refine zb_iload_n E dX11_half_11 1 rfl rfl ?_
    obtain rfl := zinj1 h
    exact zb_iret E hQ rfl (by decide) dX11_half_12
  · have h := if_f h hc
    refine zb_bipush E dX11_half_4 (v := 10) rfl ?_
    refine zb_iload_n E dX11_half_6 1 rfl rfl ?_
    refine zb_iadd E dX11_half_7 ?_
    refine zb_goto E dX11_half_8 (tgt := 12) rfl ?_
    obtain rfl := zinj1 h
    exact zb_iret E hQ rfl (by decide) dX11_half_12
theorem c_X11_half {l : Launch} {X : zX} {I : Nat → Nat → Int32} {J : Nat → Nat → Int64} {Rr : Nat → Nat → Option Nat} {D : zD} {a0 : Int32} {a1 : Int32} {rr : Int32} (h : pK_half a0 a1 = some rr) : zMi l yX11_half cX11_half 2 (some .int) ({ frames := 0, cells := 0, slots := 0, locals := 0 } : Room) X [.int a0, .int a1] (I, J, Rr, D) rr (I, J, Rr, D) := by
  refine zMi.of (by decide) (Nat.le_of_ble_eq_true rfl) (fun C E hl hX hQ => ?_)
  subst hl
  subst hX
  have eI0 : I = I := rfl
  have eJ0 : J = J := rfl
  refine zb_S (S2 := (I, J, Rr, D)) (zS_eq eI0.symm eJ0.symm) ?_
  exact c_X11_half_0 a0 a1 rr E hQ h
-- ChequeredCloth.isTerm
abbrev R_pK_isTerm : Type := Int32
def pK_isTerm (a0 : Int32) : Option R_pK_isTerm :=
  if a0 < 0 then
    some 0
  else
    if 40 ≤ a0 then
      some 0
    else
      some 1
theorem dX11_isTerm_0 : decode cX11_isTerm 0 = .ok (.iload_n 0, 1) := by decide +kernel
theorem dX11_isTerm_1 : decode cX11_isTerm 1 = .ok (.ifCond .lt 13, 3) := by decide +kernel
theorem dX11_isTerm_4 : decode cX11_isTerm 4 = .ok (.iload_n 0, 1) := by decide +kernel
theorem dX11_isTerm_5 : decode cX11_isTerm 5 = .ok (.bipush 40, 2) := by decide +kernel
theorem dX11_isTerm_7 : decode cX11_isTerm 7 = .ok (.if_icmp .ge 7, 3) := by decide +kernel
theorem dX11_isTerm_10 : decode cX11_isTerm 10 = .ok (.iconst 1, 1) := by decide +kernel
theorem dX11_isTerm_11 : decode cX11_isTerm 11 = .ok (.goto 4, 3) := by decide +kernel
theorem dX11_isTerm_14 : decode cX11_isTerm 14 = .ok (.iconst 0, 1) := by decide +kernel
theorem dX11_isTerm_15 : decode cX11_isTerm 15 = .ok (.ireturn, 1) := by decide +kernel
theorem zy_X11_isTerm : zYs yX11_isTerm cX11_isTerm 1 (some .boolean) 1 := ⟨zw_626, zw_1, zw_627, by decide, by decide, by decide⟩
theorem c_X11_isTerm_0 {C : zC} {I : Nat → Nat → Int32} {J : Nat → Nat → Int64} {Rr : Nat → Nat → Option Nat} {D : zD} (a0 : Int32) (rr : Int32) (E : zE C RX11 cX11_isTerm 1 (some .boolean) ({ frames := 0, cells := 0, slots := 0, locals := 0 } : Room)) (hQ : C.Q = zQi C ({ frames := 0, cells := 0, slots := 0, locals := 0 } : Room) rr (I, J, Rr, D)) (h : pK_isTerm a0 = some rr) : zB C (0, 0) 0 [(0, .int a0)] [] (I, J, Rr, D) := by
  refine zb_iload_n E dX11_isTerm_0 0 rfl rfl ?_
  refine zb_if_lt E dX11_isTerm_1 (tgt := 14) rfl (fun hc => ?_) (fun hc => ?_)
  · have h := if_t h hc
    refine zb_iconst E dX11_isTerm_14 (v := 0) rfl ?_
    obtain rfl := zinj1 h
    exact zb_zret E hQ (ty := .boolean) rfl rfl (by decide) dX11_isTerm_15
  · have h := if_f h hc
    refine zb_iload_n E dX11_isTerm_4 0 rfl rfl ?_
    refine zb_bipush E dX11_isTerm_5 (v := 40) rfl ?_
    refine zb_icmp_ge E dX11_isTerm_7 (tgt := 14) rfl (fun hc => ?_) (fun hc => ?_)
    · have h := if_t h hc
      refine zb_iconst E dX11_isTerm_14 (v := 0) rfl ?_
      obtain rfl := zinj1 h
      exact zb_zret E hQ (ty := .boolean) rfl rfl (by decide) dX11_isTerm_15
    · have h := if_f h hc
      refine zb_iconst E dX11_isTerm_10 (v := 1) rfl ?_
      refine zb_goto E dX11_isTerm_11 (tgt := 15) rfl ?_
      obtain rfl := zinj1 h
      exact zb_zret E hQ (ty := .boolean) rfl rfl (by decide) dX11_isTerm_15
theorem c_X11_isTerm {l : Launch} {X : zX} {I : Nat → Nat → Int32} {J : Nat → Nat → Int64} {Rr : Nat → Nat → Option Nat} {D : zD} {a0 : Int32} {rr : Int32} (h : pK_isTerm a0 = some rr) : zMi l yX11_isTerm cX11_isTerm 1 (some .boolean) ({ frames := 0, cells := 0, slots := 0, locals := 0 } : Room) X [.int a0] (I, J, Rr, D) rr (I, J, Rr, D) := by
  refine zMi.of (by decide) (Nat.le_of_ble_eq_true rfl) (fun C E hl hX hQ => ?_)
  subst hl
  subst hX
  have eI0 : I = I := rfl
  have eJ0 : J = J := rfl
  refine zb_S (S2 := (I, J, Rr, D)) (zS_eq eI0.symm eJ0.symm) ?_
  exact c_X11_isTerm_0 a0 rr E hQ h
-- ChequeredCloth.isShire
abbrev R_pK_isShire : Type := Int32
def pK_isShire (a0 : Int32) : Option R_pK_isShire :=
  if a0 < 0 then
    some 0
  else
    if 8 ≤ a0 then
      some 0
    else
      some 1
theorem dX11_isShire_0 : decode cX11_isShire 0 = .ok (.iload_n 0, 1) := by decide +kernel
theorem dX11_isShire_1 : decode cX11_isShire 1 = .ok (.ifCond .lt 13, 3) := by decide +kernel
theorem dX11_isShire_4 : decode cX11_isShire 4 = .ok (.iload_n 0, 1) := by decide +kernel
theorem dX11_isShire_5 : decode cX11_isShire 5 = .ok (.bipush 8, 2) := by decide +kernel
theorem dX11_isShire_7 : decode cX11_isShire 7 = .ok (.if_icmp .ge 7, 3) := by decide +kernel
theorem dX11_isShire_10 : decode cX11_isShire 10 = .ok (.iconst 1, 1) := by decide +kernel
theorem dX11_isShire_11 : decode cX11_isShire 11 = .ok (.goto 4, 3) := by decide +kernel
theorem dX11_isShire_14 : decode cX11_isShire 14 = .ok (.iconst 0, 1) := by decide +kernel
theorem dX11_isShire_15 : decode cX11_isShire 15 = .ok (.ireturn, 1) := by decide +kernel
theorem zy_X11_isShire : zYs yX11_isShire cX11_isShire 1 (some .boolean) 1 := ⟨zw_946, zw_1, zw_947, by decide, by decide, by decide⟩
theorem c_X11_isShire_0 {C : zC} {I : Nat → Nat → Int32} {J : Nat → Nat → Int64} {Rr : Nat → Nat → Option Nat} {D : zD} (a0 : Int32) (rr : Int32) (E : zE C RX11 cX11_isShire 1 (some .boolean) ({ frames := 0, cells := 0, slots := 0, locals := 0 } : Room)) (hQ : C.Q = zQi C ({ frames := 0, cells := 0, slots := 0, locals := 0 } : Room) rr (I, J, Rr, D)) (h : pK_isShire a0 = some rr) : zB C (0, 0) 0 [(0, .int a0)] [] (I, J, Rr, D) := by
  refine zb_iload_n E dX11_isShire_0 0 rfl rfl ?_
  refine zb_if_lt E dX11_isShire_1 (tgt := 14) rfl (fun hc => ?_) (fun hc => ?_)
  · have h := if_t h hc
    refine zb_iconst E dX11_isShire_14 (v := 0) rfl ?_
    obtain rfl := zinj1 h
    exact zb_zret E hQ (ty := .boolean) rfl rfl (by decide) dX11_isShire_15
  · have h := if_f h hc
    refine zb_iload_n E dX11_isShire_4 0 rfl rfl ?_
    refine zb_bipush E dX11_isShire_5 (v := 8) rfl ?_
    refine zb_icmp_ge E dX11_isShire_7 (tgt := 14) rfl (fun hc => ?_) (fun hc => ?_)
    · have h := if_t h hc
      refine zb_iconst E dX11_isShire_14 (v := 0) rfl ?_
      obtain rfl := zinj1 h
      exact zb_zret E hQ (ty := .boolean) rfl rfl (by decide) dX11_isShire_15
    · have h := if_f h hc
      refine zb_iconst E dX11_isShire_10 (v := 1) rfl ?_
      refine zb_goto E dX11_isShire_11 (tgt := 15) rfl ?_
      obtain rfl := zinj1 h
      exact zb_zret E hQ (ty := .boolean) rfl rfl (by decide) dX11_isShire_15
theorem c_X11_isShire {l : Launch} {X : zX} {I : Nat → Nat → Int32} {J : Nat → Nat → Int64} {Rr : Nat → Nat → Option Nat} {D : zD} {a0 : Int32} {rr : Int32} (h : pK_isShire a0 = some rr) : zMi l yX11_isShire cX11_isShire 1 (some .boolean) ({ frames := 0, cells := 0, slots := 0, locals := 0 } : Room) X [.int a0] (I, J, Rr, D) rr (I, J, Rr, D) := by
  refine zMi.of (by decide) (Nat.le_of_ble_eq_true rfl) (fun C E hl hX hQ => ?_)
  subst hl
  subst hX
  have eI0 : I = I := rfl
  have eJ0 : J = J := rfl
  refine zb_S (S2 := (I, J, Rr, D)) (zS_eq eI0.symm eJ0.symm) ?_
  exact c_X11_isShire_0 a0 rr E hQ h
