set_option maxHeartbeats 4000000
set_option maxRecDepth 100000
-- ChequeredCloth$Counters.isPlace
theorem dX3_isPlace_0 : decode cX3_isPlace 0 = .ok (.iload_n 0, 1) := by decide +kernel
theorem dX3_isPlace_1 : decode cX3_isPlace 1 = .ok (.ifCond .lt 13, 3) := by decide +kernel
theorem dX3_isPlace_4 : decode cX3_isPlace 4 = .ok (.iload_n 0, 1) := by decide +kernel
theorem dX3_isPlace_5 : decode cX3_isPlace 5 = .ok (.bipush 13, 2) := by decide +kernel
theorem dX3_isPlace_7 : decode cX3_isPlace 7 = .ok (.if_icmp .ge 7, 3) := by decide +kernel
theorem dX3_isPlace_10 : decode cX3_isPlace 10 = .ok (.iconst 1, 1) := by decide +kernel
theorem dX3_isPlace_11 : decode cX3_isPlace 11 = .ok (.goto 4, 3) := by decide +kernel
theorem dX3_isPlace_14 : decode cX3_isPlace 14 = .ok (.iconst 0, 1) := by decide +kernel
theorem dX3_isPlace_15 : decode cX3_isPlace 15 = .ok (.ireturn, 1) := by decide +kernel
theorem zy_X3_isPlace : zYs yX3_isPlace cX3_isPlace 1 (some .boolean) 1 := ⟨zw_401, zw_2, zw_402, by decide, by decide, by decide⟩
theorem c_X3_isPlace_0 {C : zC} {I : Nat → Nat → Int32} {J : Nat → Nat → Int64} {Rr : Nat → Nat → Option Nat} {D : zD} (a0 : Int32) (rr : Int32) (E : zE C RX3 cX3_isPlace 1 (some .boolean) ({ frames := 0, cells := 0, slots := 0, locals := 0 } : Room)) (hQ : C.Q = zQi C ({ frames := 0, cells := 0, slots := 0, locals := 0 } : Room) rr (I, J, Rr, D)) (h : pCounters_isPlace a0 = some rr) : zB C (0, 0) 0 [(0, .int a0)] [] (I, J, Rr, D) := by
  refine zb_iload_n E dX3_isPlace_0 0 rfl rfl ?_
  refine zb_if_lt E dX3_isPlace_1 (tgt := 14) rfl (fun hc => ?_) (fun hc => ?_)
  · have h := if_t h hc
    refine zb_iconst E dX3_isPlace_14 (v := 0) rfl ?_
    obtain rfl := zinj1 h
    exact zb_zret E hQ (ty := .boolean) rfl rfl ⟨Nat.zero_le _, Nat.zero_le _⟩ dX3_isPlace_15
  · have h := if_f h hc
    refine zb_iload_n E dX3_isPlace_4 0 rfl rfl ?_
    refine zb_bipush E dX3_isPlace_5 (v := 13) rfl ?_
    refine zb_icmp_ge E dX3_isPlace_7 (tgt := 14) rfl (fun hc => ?_) (fun hc => ?_)
    · have h := if_t h hc
      refine zb_iconst E dX3_isPlace_14 (v := 0) rfl ?_
      obtain rfl := zinj1 h
      exact zb_zret E hQ (ty := .boolean) rfl rfl ⟨Nat.zero_le _, Nat.zero_le _⟩ dX3_isPlace_15
    · have h := if_f h hc
      refine zb_iconst E dX3_isPlace_10 (v := 1) rfl ?_
      refine zb_goto E dX3_isPlace_11 (tgt := 15) rfl ?_
      obtain rfl := zinj1 h
      exact zb_zret E hQ (ty := .boolean) rfl rfl ⟨Nat.zero_le _, Nat.zero_le _⟩ dX3_isPlace_15
theorem c_X3_isPlace {l : Launch} {X : zX} {I : Nat → Nat → Int32} {J : Nat → Nat → Int64} {Rr : Nat → Nat → Option Nat} {D : zD} {a0 : Int32} {rr : Int32} (h : pCounters_isPlace a0 = some rr) : zMi l yX3_isPlace cX3_isPlace 1 (some .boolean) ({ frames := 0, cells := 0, slots := 0, locals := 0 } : Room) X [.int a0] (I, J, Rr, D) rr (I, J, Rr, D) := by
  refine zMi.of (by decide) (Nat.le_of_ble_eq_true rfl) (fun C E hl hX hQ => ?_)
  subst hl
  subst hX
  have eI0 : I = I := rfl
  have eJ0 : J = J := rfl
  refine zb_S (S2 := (I, J, Rr, D)) (zS_eq eI0.symm eJ0.symm) ?_
  exact c_X3_isPlace_0 a0 rr E hQ h
-- ChequeredCloth$Counters.set
theorem dX3_set_0 : decode cX3_set 0 = .ok (.iload_n 1, 1) := by decide +kernel
theorem dX3_set_1 : decode cX3_set 1 = .ok (.invokestatic 21, 3) := by decide +kernel
theorem dX3_set_4 : decode cX3_set 4 = .ok (.ifCond .eq 13, 3) := by decide +kernel
theorem dX3_set_7 : decode cX3_set 7 = .ok (.iload_n 2, 1) := by decide +kernel
theorem dX3_set_8 : decode cX3_set 8 = .ok (.ifCond .lt 9, 3) := by decide +kernel
theorem dX3_set_11 : decode cX3_set 11 = .ok (.iload_n 2, 1) := by decide +kernel
theorem dX3_set_12 : decode cX3_set 12 = .ok (.bipush 99, 2) := by decide +kernel
theorem dX3_set_14 : decode cX3_set 14 = .ok (.if_icmp .le 5, 3) := by decide +kernel
theorem dX3_set_17 : decode cX3_set 17 = .ok (.iconst 0, 1) := by decide +kernel
theorem dX3_set_18 : decode cX3_set 18 = .ok (.ireturn, 1) := by decide +kernel
theorem dX3_set_19 : decode cX3_set 19 = .ok (.aload_n 0, 1) := by decide +kernel
theorem dX3_set_20 : decode cX3_set 20 = .ok (.getfield 11, 3) := by decide +kernel
theorem dX3_set_23 : decode cX3_set 23 = .ok (.iload_n 1, 1) := by decide +kernel
theorem dX3_set_24 : decode cX3_set 24 = .ok (.iload_n 2, 1) := by decide +kernel
theorem dX3_set_25 : decode cX3_set 25 = .ok (.iastore, 1) := by decide +kernel
theorem dX3_set_26 : decode cX3_set 26 = .ok (.iconst 1, 1) := by decide +kernel
theorem dX3_set_27 : decode cX3_set 27 = .ok (.ireturn, 1) := by decide +kernel
theorem zy_X3_set : zYv yX3_set cX3_set 3 (some .boolean) 2 := ⟨zw_397, zw_398, zw_2, zw_399, by decide, by decide, by decide⟩
theorem c_X3_set_0 {C : zC} {I : Nat → Nat → Int32} {J : Nat → Nat → Int64} {Rr : Nat → Nat → Option Nat} {D : zD} (a1 : Int32) (a2 : Int32) (rr : Int32) (y_v_lying : (Nat → Int32)) (E : zE C RX3 cX3_set 3 (some .boolean) ({ frames := 1, cells := 0, slots := 0, locals := 20 } : Room)) (hQ : C.Q = zQi C ({ frames := 1, cells := 0, slots := 0, locals := 20 } : Room) rr ((va_up I 2 y_v_lying), J, Rr, D)) (v_lying : (Nat → Int32)) (h : pCounters_set a1 a2 v_lying = some (rr, y_v_lying)) : zB C (0, 0) 0 [(0, .ref (C.X.1 + 1)), (1, .int a1), (2, .int a2)] [] ((va_up I 2 v_lying), J, Rr, D) := by
  refine zb_iload_n E dX3_set_0 1 rfl rfl ?_
  obtain ⟨rc1, hc_1, h⟩ := bd1_s h
  refine zb_cSi E [.int a1] zy_X3_isPlace zw_400 (c_X3_isPlace hc_1) (by decide) rfl rfl (by first | decide | simp [Value.category]) dX3_set_1 (cs2 := (0, 0)) rfl ?_
  refine zb_if_eq E dX3_set_4 (tgt := 17) rfl (fun hc => ?_) (fun hc => ?_)
  · have h := if_t h hc
    refine zb_iconst E dX3_set_17 (v := 0) rfl ?_
    obtain ⟨rfl, rfl⟩ := zinj2 h
    exact zb_zret E hQ (ty := .boolean) rfl rfl ⟨Nat.zero_le _, Nat.zero_le _⟩ dX3_set_18
  · have h := if_f h hc
    refine zb_iload_n E dX3_set_7 2 rfl rfl ?_
    refine zb_if_lt E dX3_set_8 (tgt := 17) rfl (fun hc => ?_) (fun hc => ?_)
    · have h := if_t h hc
      refine zb_iconst E dX3_set_17 (v := 0) rfl ?_
      obtain ⟨rfl, rfl⟩ := zinj2 h
      exact zb_zret E hQ (ty := .boolean) rfl rfl ⟨Nat.zero_le _, Nat.zero_le _⟩ dX3_set_18
    · have h := if_f h hc
      refine zb_iload_n E dX3_set_11 2 rfl rfl ?_
      refine zb_bipush E dX3_set_12 (v := 99) rfl ?_
      refine zb_icmp_le E dX3_set_14 (tgt := 19) rfl (fun hc => ?_) (fun hc => ?_)
      · have h := if_t h hc
        refine zb_aload_n E dX3_set_19 0 rfl rfl ?_
        refine zb_get E 1 (by decide) (zF_1 C.X) rfl zin3 0 (by decide) zw_35 (v := .ref (C.X.1 + 2)) rfl dX3_set_20 ?_
        refine zb_iload_n E dX3_set_23 1 rfl rfl ?_
        refine zb_iload_n E dX3_set_24 2 rfl rfl ?_
        obtain ⟨g2, h⟩ := gd_s h
        refine zb_iast E 2 (by decide) zF_2 (f := v_lying) rfl (ib_in g2) dX3_set_25 (I2 := (va_up I 2 (upd v_lying (ix a1) a2))) zn1 ?_
        refine zb_iconst E dX3_set_26 (v := 1) rfl ?_
        obtain ⟨rfl, rfl⟩ := zinj2 h
        exact zb_zret E hQ (ty := .boolean) rfl rfl ⟨Nat.zero_le _, Nat.zero_le _⟩ dX3_set_27
      · have h := if_f h hc
        refine zb_iconst E dX3_set_17 (v := 0) rfl ?_
        obtain ⟨rfl, rfl⟩ := zinj2 h
        exact zb_zret E hQ (ty := .boolean) rfl rfl ⟨Nat.zero_le _, Nat.zero_le _⟩ dX3_set_18
theorem c_X3_set {l : Launch} {X : zX} {I : Nat → Nat → Int32} {J : Nat → Nat → Int64} {Rr : Nat → Nat → Option Nat} {D : zD} {a1 : Int32} {a2 : Int32} (v_lying : (Nat → Int32)) (e_v_lying : I 2 = v_lying) {rr : Int32} {y_v_lying : (Nat → Int32)} (h : pCounters_set a1 a2 v_lying = some (rr, y_v_lying)) : zMi l yX3_set cX3_set 3 (some .boolean) ({ frames := 1, cells := 0, slots := 0, locals := 20 } : Room) X [.ref (X.1 + 1), .int a1, .int a2] (I, J, Rr, D) rr ((va_up I 2 y_v_lying), J, Rr, D) := by
  refine zMi.of (by decide) (Nat.le_of_ble_eq_true rfl) (fun C E hl hX hQ => ?_)
  subst hl
  subst hX
  have eI0 : (va_up I 2 v_lying) = I := by rw [zup_idE e_v_lying]
  have eJ0 : J = J := rfl
  refine zb_S (S2 := ((va_up I 2 v_lying), J, Rr, D)) (zS_eq eI0.symm eJ0.symm) ?_
  exact c_X3_set_0 a1 a2 rr y_v_lying E hQ v_lying h
-- ChequeredCloth$Counters.countAt
theorem dX3_countAt_0 : decode cX3_countAt 0 = .ok (.iload_n 1, 1) := by decide +kernel
theorem dX3_countAt_1 : decode cX3_countAt 1 = .ok (.invokestatic 21, 3) := by decide +kernel
theorem dX3_countAt_4 : decode cX3_countAt 4 = .ok (.ifCond .eq 12, 3) := by decide +kernel
theorem dX3_countAt_7 : decode cX3_countAt 7 = .ok (.aload_n 0, 1) := by decide +kernel
theorem dX3_countAt_8 : decode cX3_countAt 8 = .ok (.getfield 11, 3) := by decide +kernel
theorem dX3_countAt_11 : decode cX3_countAt 11 = .ok (.iload_n 1, 1) := by decide +kernel
theorem dX3_countAt_12 : decode cX3_countAt 12 = .ok (.iaload, 1) := by decide +kernel
theorem dX3_countAt_13 : decode cX3_countAt 13 = .ok (.goto 4, 3) := by decide +kernel
theorem dX3_countAt_16 : decode cX3_countAt 16 = .ok (.iconst (-1), 1) := by decide +kernel
theorem dX3_countAt_17 : decode cX3_countAt 17 = .ok (.ireturn, 1) := by decide +kernel
theorem zy_X3_countAt : zYv yX3_countAt cX3_countAt 2 (some .int) 1 := ⟨zw_408, zw_409, zw_2, zw_410, by decide, by decide, by decide⟩
theorem c_X3_countAt_0 {C : zC} {I : Nat → Nat → Int32} {J : Nat → Nat → Int64} {Rr : Nat → Nat → Option Nat} {D : zD} (a1 : Int32) (v_lying : (Nat → Int32)) (e_v_lying : I 2 = v_lying) (rr : Int32) (E : zE C RX3 cX3_countAt 2 (some .int) ({ frames := 1, cells := 0, slots := 0, locals := 20 } : Room)) (hQ : C.Q = zQi C ({ frames := 1, cells := 0, slots := 0, locals := 20 } : Room) rr (I, J, Rr, D)) (h : pCounters_countAt a1 v_lying = some rr) : zB C (0, 0) 0 [(0, .ref (C.X.1 + 1)), (1, .int a1)] [] (I, J, Rr, D) := by
  refine zb_iload_n E dX3_countAt_0 1 rfl rfl ?_
  obtain ⟨rc1, hc_1, h⟩ := bd1_s h
  refine zb_cSi E [.int a1] zy_X3_isPlace zw_400 (c_X3_isPlace hc_1) (by decide) rfl rfl (by first | decide | simp [Value.category]) dX3_countAt_1 (cs2 := (0, 0)) rfl ?_
  refine zb_if_eq E dX3_countAt_4 (tgt := 16) rfl (fun hc => ?_) (fun hc => ?_)
  · have h := if_t h hc
    refine zb_iconst E dX3_countAt_16 (v := (-1)) rfl ?_
    obtain rfl := zinj1 h
    exact zb_iret E hQ rfl ⟨Nat.zero_le _, Nat.zero_le _⟩ dX3_countAt_17
  · have h := if_f h hc
    refine zb_aload_n E dX3_countAt_7 0 rfl rfl ?_
    refine zb_get E 1 (by decide) (zF_1 C.X) rfl zin3 0 (by decide) zw_35 (v := .ref (C.X.1 + 2)) rfl dX3_countAt_8 ?_
    refine zb_iload_n E dX3_countAt_11 1 rfl rfl ?_
    obtain ⟨g2, h⟩ := gd_s h
    refine zb_iald E 2 (by decide) zF_2 (f := v_lying) (by exact e_v_lying) (ib_in g2) dX3_countAt_12 ?_
    refine zb_goto E dX3_countAt_13 (tgt := 17) rfl ?_
    obtain rfl := zinj1 h
    exact zb_iret E hQ rfl ⟨Nat.zero_le _, Nat.zero_le _⟩ dX3_countAt_17
theorem c_X3_countAt {l : Launch} {X : zX} {I : Nat → Nat → Int32} {J : Nat → Nat → Int64} {Rr : Nat → Nat → Option Nat} {D : zD} {a1 : Int32} (v_lying : (Nat → Int32)) (e_v_lying : I 2 = v_lying) {rr : Int32} (h : pCounters_countAt a1 v_lying = some rr) : zMi l yX3_countAt cX3_countAt 2 (some .int) ({ frames := 1, cells := 0, slots := 0, locals := 20 } : Room) X [.ref (X.1 + 1), .int a1] (I, J, Rr, D) rr (I, J, Rr, D) := by
  refine zMi.of (by decide) (Nat.le_of_ble_eq_true rfl) (fun C E hl hX hQ => ?_)
  subst hl
  subst hX
  have eI0 : I = I := rfl
  have eJ0 : J = J := rfl
  refine zb_S (S2 := (I, J, Rr, D)) (zS_eq eI0.symm eJ0.symm) ?_
  exact c_X3_countAt_0 a1 v_lying e_v_lying rr E hQ h
-- ChequeredCloth$Counters.total
theorem dX3_total_0 : decode cX3_total 0 = .ok (.lconst 0, 1) := by decide +kernel
theorem dX3_total_1 : decode cX3_total 1 = .ok (.lstore_n 1, 1) := by decide +kernel
theorem dX3_total_2 : decode cX3_total 2 = .ok (.iconst 0, 1) := by decide +kernel
theorem dX3_total_3 : decode cX3_total 3 = .ok (.istore_n 3, 1) := by decide +kernel
theorem dX3_total_4 : decode cX3_total 4 = .ok (.iload_n 3, 1) := by decide +kernel
theorem dX3_total_5 : decode cX3_total 5 = .ok (.bipush 13, 2) := by decide +kernel
theorem dX3_total_7 : decode cX3_total 7 = .ok (.if_icmp .ge 26, 3) := by decide +kernel
theorem dX3_total_10 : decode cX3_total 10 = .ok (.lload_n 1, 1) := by decide +kernel
theorem dX3_total_11 : decode cX3_total 11 = .ok (.aload_n 0, 1) := by decide +kernel
theorem dX3_total_12 : decode cX3_total 12 = .ok (.getfield 11, 3) := by decide +kernel
theorem dX3_total_15 : decode cX3_total 15 = .ok (.iload_n 3, 1) := by decide +kernel
theorem dX3_total_16 : decode cX3_total 16 = .ok (.iaload, 1) := by decide +kernel
theorem dX3_total_17 : decode cX3_total 17 = .ok (.i2l, 1) := by decide +kernel
theorem dX3_total_18 : decode cX3_total 18 = .ok (.getstatic 25, 3) := by decide +kernel
theorem dX3_total_21 : decode cX3_total 21 = .ok (.iload_n 3, 1) := by decide +kernel
theorem dX3_total_22 : decode cX3_total 22 = .ok (.iaload, 1) := by decide +kernel
theorem dX3_total_23 : decode cX3_total 23 = .ok (.i2l, 1) := by decide +kernel
theorem dX3_total_24 : decode cX3_total 24 = .ok (.lmul, 1) := by decide +kernel
theorem dX3_total_25 : decode cX3_total 25 = .ok (.ladd, 1) := by decide +kernel
theorem dX3_total_26 : decode cX3_total 26 = .ok (.lstore_n 1, 1) := by decide +kernel
theorem dX3_total_27 : decode cX3_total 27 = .ok (.iinc 3 1, 3) := by decide +kernel
theorem dX3_total_30 : decode cX3_total 30 = .ok (.goto (-26), 3) := by decide +kernel
theorem dX3_total_33 : decode cX3_total 33 = .ok (.lload_n 1, 1) := by decide +kernel
theorem dX3_total_34 : decode cX3_total 34 = .ok (.lreturn, 1) := by decide +kernel
theorem zy_X3_total : zYv yX3_total cX3_total 4 (some .long) 0 := ⟨zw_416, zw_417, zw_2, zw_418, by decide, by decide, by decide⟩
theorem c_X3_total_b4 {C : zC} {I : Nat → Nat → Int32} {J : Nat → Nat → Int64} {Rr : Nat → Nat → Option Nat} {D : zD} (N : Nat) (v_lying : (Nat → Int32)) (e_v_lying : I 2 = v_lying) (rr : Int64) (E : zE C RX3 cX3_total 4 (some .long) ({ frames := 0, cells := 0, slots := 0, locals := 0 } : Room)) (hQ : C.Q = zQl C ({ frames := 0, cells := 0, slots := 0, locals := 0 } : Room) rr (I, J, Rr, D))  : ∀ (n9 : Nat) (x1 : Int64) (x3 : Int32), pCounters_total_b4 N v_lying n9 x1 x3 = some rr → zB C (0, 0) 4 [(0, .ref (C.X.1 + 1)), (1, .long x1), (3, .int x3)] [] (I, J, Rr, D) := by
  refine zlp2_ind (P := fun (x1 : Int64) (x3 : Int32) => zB C (0, 0) 4 [(0, .ref (C.X.1 + 1)), (1, .long x1), (3, .int x3)] [] (I, J, Rr, D)) (fun self ih => ?_)
  intro x1 x3 h
  refine zb_iload_n E dX3_total_4 2 rfl rfl ?_
  refine zb_bipush E dX3_total_5 (v := 13) rfl ?_
  refine zb_icmp_ge E dX3_total_7 (tgt := 33) rfl (fun hc => ?_) (fun hc => ?_)
  · have h := if_t h hc
    refine zb_lload_n E dX3_total_33 1 rfl rfl ?_
    obtain rfl := zinj1 h
    exact zb_lret E hQ rfl ⟨Nat.zero_le _, Nat.zero_le _⟩ dX3_total_34
  · have h := if_f h hc
    refine zb_lload_n E dX3_total_10 1 rfl rfl ?_
    refine zb_aload_n E dX3_total_11 0 rfl rfl ?_
    refine zb_get E 1 (by decide) (zF_1 C.X) rfl zin3 0 (by decide) zw_35 (v := .ref (C.X.1 + 2)) rfl dX3_total_12 ?_
    refine zb_iload_n E dX3_total_15 2 rfl rfl ?_
    obtain ⟨g1, h⟩ := gd_s h
    refine zb_iald E 2 (by decide) zF_2 (f := v_lying) (by exact e_v_lying) (ib_in g1) dX3_total_16 ?_
    refine zb_i2l E dX3_total_17 ?_
    refine zb_gets0 E zw_419 dX3_total_18 ?_
    refine zb_iload_n E dX3_total_21 2 rfl rfl ?_
    refine zb_tald0 E (ib_in g1) dX3_total_22 ?_
    refine zb_i2l E dX3_total_23 ?_
    refine zb_lmul E dX3_total_24 ?_
    refine zb_ladd E dX3_total_25 ?_
    refine zb_lstore_n E dX3_total_26 rfl (by decide) (lv2 := [(1, .long (x1 + ((i2l (v_lying (ix x3))) * (i2l (zc0.getD (ix x3) 0))))), (0, .ref (C.X.1 + 1)), (3, .int x3)]) rfl ?_
    refine zb_iinc E dX3_total_27 2 rfl (v := (x3 + 1)) rfl (by decide) (lv2 := [(3, .int (x3 + 1)), (1, .long (x1 + ((i2l (v_lying (ix x3))) * (i2l (zc0.getD (ix x3) 0))))), (0, .ref (C.X.1 + 1))]) rfl ?_
    refine zb_goto E dX3_total_30 (tgt := 4) rfl ?_
    refine zb_sub [2, 1, 0] rfl ?_
    exact ih (x1 + ((i2l (v_lying (ix x3))) * (i2l (zc0.getD (ix x3) 0)))) (x3 + 1) h
theorem c_X3_total_0 {C : zC} {I : Nat → Nat → Int32} {J : Nat → Nat → Int64} {Rr : Nat → Nat → Option Nat} {D : zD} (N : Nat) (v_lying : (Nat → Int32)) (e_v_lying : I 2 = v_lying) (rr : Int64) (E : zE C RX3 cX3_total 4 (some .long) ({ frames := 0, cells := 0, slots := 0, locals := 0 } : Room)) (hQ : C.Q = zQl C ({ frames := 0, cells := 0, slots := 0, locals := 0 } : Room) rr (I, J, Rr, D)) (h : pCounters_total N v_lying = some rr) : zB C (0, 0) 0 [(0, .ref (C.X.1 + 1))] [] (I, J, Rr, D) := by
  refine zb_lconst E dX3_total_0 (v := 0) rfl ?_
  refine zb_lstore_n E dX3_total_1 rfl (by decide) (lv2 := [(1, .long 0), (0, .ref (C.X.1 + 1))]) rfl ?_
  refine zb_iconst E dX3_total_2 (v := 0) rfl ?_
  refine zb_istore_n E dX3_total_3 rfl (by decide) (lv2 := [(3, .int 0), (1, .long 0), (0, .ref (C.X.1 + 1))]) rfl ?_
  refine zb_sub [2, 1, 0] rfl ?_
  exact c_X3_total_b4 N v_lying e_v_lying rr E hQ _ 0 0 h
theorem c_X3_total {l : Launch} {X : zX} {I : Nat → Nat → Int32} {J : Nat → Nat → Int64} {Rr : Nat → Nat → Option Nat} {D : zD} {N : Nat} (v_lying : (Nat → Int32)) (e_v_lying : I 2 = v_lying) {rr : Int64} (h : pCounters_total N v_lying = some rr) : zMl l yX3_total cX3_total 4 (some .long) ({ frames := 0, cells := 0, slots := 0, locals := 0 } : Room) X [.ref (X.1 + 1)] (I, J, Rr, D) rr (I, J, Rr, D) := by
  refine zMl.of (by decide) (Nat.le_of_ble_eq_true rfl) (fun C E hl hX hQ => ?_)
  subst hl
  subst hX
  have eI0 : I = I := rfl
  have eJ0 : J = J := rfl
  refine zb_S (S2 := (I, J, Rr, D)) (zS_eq eI0.symm eJ0.symm) ?_
  exact c_X3_total_0 N v_lying e_v_lying rr E hQ h
-- ChequeredCloth$Counters.tellPlain
theorem dX3_tellPlain_0 : decode cX3_tellPlain 0 = .ok (.iload_n 1, 1) := by decide +kernel
theorem dX3_tellPlain_1 : decode cX3_tellPlain 1 = .ok (.ifCond .lt 9, 3) := by decide +kernel
theorem dX3_tellPlain_4 : decode cX3_tellPlain 4 = .ok (.iload_n 1, 1) := by decide +kernel
theorem dX3_tellPlain_5 : decode cX3_tellPlain 5 = .ok (.ldc 45, 2) := by decide +kernel
theorem dX3_tellPlain_7 : decode cX3_tellPlain 7 = .ok (.if_icmp .le 5, 3) := by decide +kernel
theorem dX3_tellPlain_10 : decode cX3_tellPlain 10 = .ok (.iconst 0, 1) := by decide +kernel
theorem dX3_tellPlain_11 : decode cX3_tellPlain 11 = .ok (.ireturn, 1) := by decide +kernel
theorem dX3_tellPlain_12 : decode cX3_tellPlain 12 = .ok (.iload_n 1, 1) := by decide +kernel
theorem dX3_tellPlain_13 : decode cX3_tellPlain 13 = .ok (.istore_n 2, 1) := by decide +kernel
theorem dX3_tellPlain_14 : decode cX3_tellPlain 14 = .ok (.bipush 12, 2) := by decide +kernel
theorem dX3_tellPlain_16 : decode cX3_tellPlain 16 = .ok (.istore_n 3, 1) := by decide +kernel
theorem dX3_tellPlain_17 : decode cX3_tellPlain 17 = .ok (.iload_n 3, 1) := by decide +kernel
theorem dX3_tellPlain_18 : decode cX3_tellPlain 18 = .ok (.ifCond .lt 43, 3) := by decide +kernel
theorem dX3_tellPlain_21 : decode cX3_tellPlain 21 = .ok (.aload_n 0, 1) := by decide +kernel
theorem dX3_tellPlain_22 : decode cX3_tellPlain 22 = .ok (.getfield 18, 3) := by decide +kernel
theorem dX3_tellPlain_25 : decode cX3_tellPlain 25 = .ok (.iload_n 3, 1) := by decide +kernel
theorem dX3_tellPlain_26 : decode cX3_tellPlain 26 = .ok (.iload_n 2, 1) := by decide +kernel
theorem dX3_tellPlain_27 : decode cX3_tellPlain 27 = .ok (.getstatic 25, 3) := by decide +kernel
theorem dX3_tellPlain_30 : decode cX3_tellPlain 30 = .ok (.iload_n 3, 1) := by decide +kernel
theorem dX3_tellPlain_31 : decode cX3_tellPlain 31 = .ok (.iaload, 1) := by decide +kernel
theorem dX3_tellPlain_32 : decode cX3_tellPlain 32 = .ok (.idiv, 1) := by decide +kernel
theorem dX3_tellPlain_33 : decode cX3_tellPlain 33 = .ok (.iastore, 1) := by decide +kernel
theorem dX3_tellPlain_34 : decode cX3_tellPlain 34 = .ok (.iload_n 2, 1) := by decide +kernel
theorem dX3_tellPlain_35 : decode cX3_tellPlain 35 = .ok (.getstatic 25, 3) := by decide +kernel
theorem dX3_tellPlain_38 : decode cX3_tellPlain 38 = .ok (.iload_n 3, 1) := by decide +kernel
theorem dX3_tellPlain_39 : decode cX3_tellPlain 39 = .ok (.iaload, 1) := by decide +kernel
theorem dX3_tellPlain_40 : decode cX3_tellPlain 40 = .ok (.irem, 1) := by decide +kernel
theorem dX3_tellPlain_41 : decode cX3_tellPlain 41 = .ok (.istore_n 2, 1) := by decide +kernel
theorem dX3_tellPlain_42 : decode cX3_tellPlain 42 = .ok (.aload_n 0, 1) := by decide +kernel
theorem dX3_tellPlain_43 : decode cX3_tellPlain 43 = .ok (.getfield 18, 3) := by decide +kernel
theorem dX3_tellPlain_46 : decode cX3_tellPlain 46 = .ok (.iload_n 3, 1) := by decide +kernel
theorem dX3_tellPlain_47 : decode cX3_tellPlain 47 = .ok (.iaload, 1) := by decide +kernel
theorem dX3_tellPlain_48 : decode cX3_tellPlain 48 = .ok (.bipush 99, 2) := by decide +kernel
theorem dX3_tellPlain_50 : decode cX3_tellPlain 50 = .ok (.if_icmp .le 5, 3) := by decide +kernel
theorem dX3_tellPlain_53 : decode cX3_tellPlain 53 = .ok (.iconst 0, 1) := by decide +kernel
theorem dX3_tellPlain_54 : decode cX3_tellPlain 54 = .ok (.ireturn, 1) := by decide +kernel
theorem dX3_tellPlain_55 : decode cX3_tellPlain 55 = .ok (.iinc 3 (-1), 3) := by decide +kernel
theorem dX3_tellPlain_58 : decode cX3_tellPlain 58 = .ok (.goto (-41), 3) := by decide +kernel
theorem dX3_tellPlain_61 : decode cX3_tellPlain 61 = .ok (.iconst 1, 1) := by decide +kernel
theorem dX3_tellPlain_62 : decode cX3_tellPlain 62 = .ok (.ireturn, 1) := by decide +kernel
theorem zy_X3_tellPlain : zYv yX3_tellPlain cX3_tellPlain 4 (some .boolean) 1 := ⟨zw_431, zws_0, zw_2, zw_432, by decide, by decide, by decide⟩
theorem c_X3_tellPlain_b17 {C : zC} {I : Nat → Nat → Int32} {J : Nat → Nat → Int64} {Rr : Nat → Nat → Option Nat} {D : zD} (N : Nat) (a1 : Int32) (rr : Int32) (y_v_due : (Nat → Int32)) (E : zE C RX3 cX3_tellPlain 4 (some .boolean) ({ frames := 0, cells := 0, slots := 0, locals := 0 } : Room)) (hQ : C.Q = zQi C ({ frames := 0, cells := 0, slots := 0, locals := 0 } : Room) rr ((va_up I 4 y_v_due), J, Rr, D))  : ∀ (n9 : Nat) (x2 : Int32) (x3 : Int32) (v_due : (Nat → Int32)), pCounters_tellPlain_b17 N a1 n9 x2 x3 v_due = some (rr, y_v_due) → zB C (0, 0) 17 [(0, .ref (C.X.1 + 1)), (2, .int x2), (3, .int x3)] [] ((va_up I 4 v_due), J, Rr, D) := by
  refine zlp3_ind (P := fun (x2 : Int32) (x3 : Int32) (v_due : (Nat → Int32)) => zB C (0, 0) 17 [(0, .ref (C.X.1 + 1)), (2, .int x2), (3, .int x3)] [] ((va_up I 4 v_due), J, Rr, D)) (fun self ih => ?_)
  intro x2 x3 v_due h
  refine zb_iload_n E dX3_tellPlain_17 2 rfl rfl ?_
  refine zb_if_lt E dX3_tellPlain_18 (tgt := 61) rfl (fun hc => ?_) (fun hc => ?_)
  · have h := if_t h hc
    refine zb_iconst E dX3_tellPlain_61 (v := 1) rfl ?_
    obtain ⟨rfl, rfl⟩ := zinj2 h
    exact zb_zret E hQ (ty := .boolean) rfl rfl ⟨Nat.zero_le _, Nat.zero_le _⟩ dX3_tellPlain_62
  · have h := if_f h hc
    refine zb_aload_n E dX3_tellPlain_21 0 rfl rfl ?_
    refine zb_get E 1 (by decide) (zF_1 C.X) rfl zin3 2 (by decide) zw_37 (v := .ref (C.X.1 + 4)) rfl dX3_tellPlain_22 ?_
    refine zb_iload_n E dX3_tellPlain_25 2 rfl rfl ?_
    refine zb_iload_n E dX3_tellPlain_26 1 rfl rfl ?_
    refine zb_gets0 E zw_419 dX3_tellPlain_27 ?_
    refine zb_iload_n E dX3_tellPlain_30 2 rfl rfl ?_
    obtain ⟨g1, h⟩ := gd_s h
    refine zb_tald0 E (ib_in g1) dX3_tellPlain_31 ?_
    obtain ⟨g2, h⟩ := gd_s h
    refine zb_idiv E dX3_tellPlain_32 (nz_i g2) ?_
    refine zb_iast E 4 (by decide) zF_4 (f := v_due) rfl (ib_in g1) dX3_tellPlain_33 (I2 := (va_up I 4 (upd v_due (ix x3) (x2 / (zc0.getD (ix x3) 0))))) zn1 ?_
    refine zb_iload_n E dX3_tellPlain_34 1 rfl rfl ?_
    refine zb_gets0 E zw_419 dX3_tellPlain_35 ?_
    refine zb_iload_n E dX3_tellPlain_38 2 rfl rfl ?_
    refine zb_tald0 E (ib_in g1) dX3_tellPlain_39 ?_
    refine zb_irem E dX3_tellPlain_40 (nz_i g2) ?_
    refine zb_istore_n E dX3_tellPlain_41 rfl (by decide) (lv2 := [(2, .int (x2 - x2 / (zc0.getD (ix x3) 0) * (zc0.getD (ix x3) 0))), (0, .ref (C.X.1 + 1)), (3, .int x3)]) rfl ?_
    refine zb_aload_n E dX3_tellPlain_42 1 rfl rfl ?_
    refine zb_get E 1 (by decide) (zF_1 C.X) rfl zin3 2 (by decide) zw_37 (v := .ref (C.X.1 + 4)) rfl dX3_tellPlain_43 ?_
    refine zb_iload_n E dX3_tellPlain_46 2 rfl rfl ?_
    refine zb_iald E 4 (by decide) zF_4 (f := (upd v_due (ix x3) (x2 / (zc0.getD (ix x3) 0)))) rfl (ib_in g1) dX3_tellPlain_47 ?_
    refine zb_bipush E dX3_tellPlain_48 (v := 99) rfl ?_
    refine zb_icmp_le E dX3_tellPlain_50 (tgt := 55) rfl (fun hc => ?_) (fun hc => ?_)
    · have h := if_t h hc
      refine zb_iinc E dX3_tellPlain_55 2 rfl (v := (x3 + (-1))) rfl (by decide) (lv2 := [(3, .int (x3 + (-1))), (2, .int (x2 - x2 / (zc0.getD (ix x3) 0) * (zc0.getD (ix x3) 0))), (0, .ref (C.X.1 + 1))]) rfl ?_
      refine zb_goto E dX3_tellPlain_58 (tgt := 17) rfl ?_
      refine zb_sub [2, 1, 0] rfl ?_
      exact ih (x2 - x2 / (zc0.getD (ix x3) 0) * (zc0.getD (ix x3) 0)) (x3 + (-1)) (upd v_due (ix x3) (x2 / (zc0.getD (ix x3) 0))) h
    · have h := if_f h hc
      refine zb_iconst E dX3_tellPlain_53 (v := 0) rfl ?_
      obtain ⟨rfl, rfl⟩ := zinj2 h
      exact zb_zret E hQ (ty := .boolean) rfl rfl ⟨Nat.zero_le _, Nat.zero_le _⟩ dX3_tellPlain_54
theorem c_X3_tellPlain_0 {C : zC} {I : Nat → Nat → Int32} {J : Nat → Nat → Int64} {Rr : Nat → Nat → Option Nat} {D : zD} (N : Nat) (a1 : Int32) (rr : Int32) (y_v_due : (Nat → Int32)) (E : zE C RX3 cX3_tellPlain 4 (some .boolean) ({ frames := 0, cells := 0, slots := 0, locals := 0 } : Room)) (hQ : C.Q = zQi C ({ frames := 0, cells := 0, slots := 0, locals := 0 } : Room) rr ((va_up I 4 y_v_due), J, Rr, D)) (v_due : (Nat → Int32)) (h : pCounters_tellPlain N a1 v_due = some (rr, y_v_due)) : zB C (0, 0) 0 [(0, .ref (C.X.1 + 1)), (1, .int a1)] [] ((va_up I 4 v_due), J, Rr, D) := by
  refine zb_iload_n E dX3_tellPlain_0 1 rfl rfl ?_
  refine zb_if_lt E dX3_tellPlain_1 (tgt := 10) rfl (fun hc => ?_) (fun hc => ?_)
  · have h := if_t h hc
    refine zb_iconst E dX3_tellPlain_10 (v := 0) rfl ?_
    obtain ⟨rfl, rfl⟩ := zinj2 h
    exact zb_zret E hQ (ty := .boolean) rfl rfl ⟨Nat.zero_le _, Nat.zero_le _⟩ dX3_tellPlain_11
  · have h := if_f h hc
    refine zb_iload_n E dX3_tellPlain_4 1 rfl rfl ?_
    refine zb_ldc E dX3_tellPlain_5 (v := 1000000000) zw_433 ?_
    refine zb_icmp_le E dX3_tellPlain_7 (tgt := 12) rfl (fun hc => ?_) (fun hc => ?_)
    · have h := if_t h hc
      refine zb_iload_n E dX3_tellPlain_12 1 rfl rfl ?_
      refine zb_istore_n E dX3_tellPlain_13 rfl (by decide) (lv2 := [(2, .int a1), (0, .ref (C.X.1 + 1)), (1, .int a1)]) rfl ?_
      refine zb_bipush E dX3_tellPlain_14 (v := 12) rfl ?_
      refine zb_istore_n E dX3_tellPlain_16 rfl (by decide) (lv2 := [(3, .int 12), (2, .int a1), (0, .ref (C.X.1 + 1)), (1, .int a1)]) rfl ?_
      refine zb_sub [2, 1, 0] rfl ?_
      exact c_X3_tellPlain_b17 N a1 rr y_v_due E hQ _ a1 12 v_due h
    · have h := if_f h hc
      refine zb_iconst E dX3_tellPlain_10 (v := 0) rfl ?_
      obtain ⟨rfl, rfl⟩ := zinj2 h
      exact zb_zret E hQ (ty := .boolean) rfl rfl ⟨Nat.zero_le _, Nat.zero_le _⟩ dX3_tellPlain_11
theorem c_X3_tellPlain {l : Launch} {X : zX} {I : Nat → Nat → Int32} {J : Nat → Nat → Int64} {Rr : Nat → Nat → Option Nat} {D : zD} {N : Nat} {a1 : Int32} (v_due : (Nat → Int32)) (e_v_due : I 4 = v_due) {rr : Int32} {y_v_due : (Nat → Int32)} (h : pCounters_tellPlain N a1 v_due = some (rr, y_v_due)) : zMi l yX3_tellPlain cX3_tellPlain 4 (some .boolean) ({ frames := 0, cells := 0, slots := 0, locals := 0 } : Room) X [.ref (X.1 + 1), .int a1] (I, J, Rr, D) rr ((va_up I 4 y_v_due), J, Rr, D) := by
  refine zMi.of (by decide) (Nat.le_of_ble_eq_true rfl) (fun C E hl hX hQ => ?_)
  subst hl
  subst hX
  have eI0 : (va_up I 4 v_due) = I := by rw [zup_idE e_v_due]
  have eJ0 : J = J := rfl
  refine zb_S (S2 := ((va_up I 4 v_due), J, Rr, D)) (zS_eq eI0.symm eJ0.symm) ?_
  exact c_X3_tellPlain_0 N a1 rr y_v_due E hQ v_due h
-- ChequeredCloth$Counters.plainAt
theorem dX3_plainAt_0 : decode cX3_plainAt 0 = .ok (.iload_n 2, 1) := by decide +kernel
theorem dX3_plainAt_1 : decode cX3_plainAt 1 = .ok (.invokestatic 21, 3) := by decide +kernel
theorem dX3_plainAt_4 : decode cX3_plainAt 4 = .ok (.ifCond .eq 20, 3) := by decide +kernel
theorem dX3_plainAt_7 : decode cX3_plainAt 7 = .ok (.aload_n 0, 1) := by decide +kernel
theorem dX3_plainAt_8 : decode cX3_plainAt 8 = .ok (.iload_n 1, 1) := by decide +kernel
theorem dX3_plainAt_9 : decode cX3_plainAt 9 = .ok (.invokevirtual 28, 3) := by decide +kernel
theorem dX3_plainAt_12 : decode cX3_plainAt 12 = .ok (.ifCond .eq 12, 3) := by decide +kernel
theorem dX3_plainAt_15 : decode cX3_plainAt 15 = .ok (.aload_n 0, 1) := by decide +kernel
theorem dX3_plainAt_16 : decode cX3_plainAt 16 = .ok (.getfield 18, 3) := by decide +kernel
theorem dX3_plainAt_19 : decode cX3_plainAt 19 = .ok (.iload_n 2, 1) := by decide +kernel
theorem dX3_plainAt_20 : decode cX3_plainAt 20 = .ok (.iaload, 1) := by decide +kernel
theorem dX3_plainAt_21 : decode cX3_plainAt 21 = .ok (.goto 4, 3) := by decide +kernel
theorem dX3_plainAt_24 : decode cX3_plainAt 24 = .ok (.iconst (-1), 1) := by decide +kernel
theorem dX3_plainAt_25 : decode cX3_plainAt 25 = .ok (.ireturn, 1) := by decide +kernel
theorem zy_X3_plainAt : zYv yX3_plainAt cX3_plainAt 3 (some .int) 2 := ⟨zw_426, zw_427, zw_2, zw_428, by decide, by decide, by decide⟩
theorem c_X3_plainAt_0 {C : zC} {I : Nat → Nat → Int32} {J : Nat → Nat → Int64} {Rr : Nat → Nat → Option Nat} {D : zD} (N : Nat) (a1 : Int32) (a2 : Int32) (rr : Int32) (y_v_due : (Nat → Int32)) (E : zE C RX3 cX3_plainAt 3 (some .int) ({ frames := 1, cells := 0, slots := 0, locals := 23 } : Room)) (hQ : C.Q = zQi C ({ frames := 1, cells := 0, slots := 0, locals := 23 } : Room) rr ((va_up I 4 y_v_due), J, Rr, D)) (v_due : (Nat → Int32)) (h : pCounters_plainAt N a1 a2 v_due = some (rr, y_v_due)) : zB C (0, 0) 0 [(0, .ref (C.X.1 + 1)), (1, .int a1), (2, .int a2)] [] ((va_up I 4 v_due), J, Rr, D) := by
  refine zb_iload_n E dX3_plainAt_0 2 rfl rfl ?_
  obtain ⟨rc1, hc_1, h⟩ := bd1_s h
  refine zb_cSi E [.int a2] zy_X3_isPlace zw_400 (c_X3_isPlace hc_1) (by decide) rfl rfl (by first | decide | simp [Value.category]) dX3_plainAt_1 (cs2 := (0, 0)) rfl ?_
  refine zb_if_eq E dX3_plainAt_4 (tgt := 24) rfl (fun hc => ?_) (fun hc => ?_)
  · have h := if_t h hc
    refine zb_iconst E dX3_plainAt_24 (v := (-1)) rfl ?_
    obtain ⟨rfl, rfl⟩ := zinj2 h
    exact zb_iret E hQ rfl ⟨Nat.zero_le _, Nat.zero_le _⟩ dX3_plainAt_25
  · have h := if_f h hc
    refine zb_aload_n E dX3_plainAt_7 0 rfl rfl ?_
    refine zb_iload_n E dX3_plainAt_8 1 rfl rfl ?_
    obtain ⟨rc2, v_due_c2, hc_9, h⟩ := bd2_s h
    refine zb_cVi E [.int a1] 1 zy_X3_tellPlain zw_429 (by decide) (zF_1 _ _ _ _) rfl (c_X3_tellPlain v_due rfl hc_9) (by decide) rfl rfl (by first | decide | simp [Value.category]) dX3_plainAt_9 (cs2 := (0, 0)) rfl ?_
    refine zb_S (S2 := ((va_up I 4 v_due_c2), J, Rr, D)) (zS_eq zn1 rfl) ?_
    refine zb_if_eq E dX3_plainAt_12 (tgt := 24) rfl (fun hc => ?_) (fun hc => ?_)
    · have h := if_t h hc
      refine zb_iconst E dX3_plainAt_24 (v := (-1)) rfl ?_
      obtain ⟨rfl, rfl⟩ := zinj2 h
      exact zb_iret E hQ rfl ⟨Nat.zero_le _, Nat.zero_le _⟩ dX3_plainAt_25
    · have h := if_f h hc
      refine zb_aload_n E dX3_plainAt_15 0 rfl rfl ?_
      refine zb_get E 1 (by decide) (zF_1 C.X) rfl zin3 2 (by decide) zw_37 (v := .ref (C.X.1 + 4)) rfl dX3_plainAt_16 ?_
      refine zb_iload_n E dX3_plainAt_19 2 rfl rfl ?_
      obtain ⟨g3, h⟩ := gd_s h
      refine zb_iald E 4 (by decide) zF_4 (f := v_due_c2) rfl (ib_in g3) dX3_plainAt_20 ?_
      refine zb_goto E dX3_plainAt_21 (tgt := 25) rfl ?_
      obtain ⟨rfl, rfl⟩ := zinj2 h
      exact zb_iret E hQ rfl ⟨Nat.zero_le _, Nat.zero_le _⟩ dX3_plainAt_25
theorem c_X3_plainAt {l : Launch} {X : zX} {I : Nat → Nat → Int32} {J : Nat → Nat → Int64} {Rr : Nat → Nat → Option Nat} {D : zD} {N : Nat} {a1 : Int32} {a2 : Int32} (v_due : (Nat → Int32)) (e_v_due : I 4 = v_due) {rr : Int32} {y_v_due : (Nat → Int32)} (h : pCounters_plainAt N a1 a2 v_due = some (rr, y_v_due)) : zMi l yX3_plainAt cX3_plainAt 3 (some .int) ({ frames := 1, cells := 0, slots := 0, locals := 23 } : Room) X [.ref (X.1 + 1), .int a1, .int a2] (I, J, Rr, D) rr ((va_up I 4 y_v_due), J, Rr, D) := by
  refine zMi.of (by decide) (Nat.le_of_ble_eq_true rfl) (fun C E hl hX hQ => ?_)
  subst hl
  subst hX
  have eI0 : (va_up I 4 v_due) = I := by rw [zup_idE e_v_due]
  have eJ0 : J = J := rfl
  refine zb_S (S2 := ((va_up I 4 v_due), J, Rr, D)) (zS_eq eI0.symm eJ0.symm) ?_
  exact c_X3_plainAt_0 N a1 a2 rr y_v_due E hQ v_due h
-- ChequeredCloth$Counters.changeUpward
theorem dX3_changeUpward_0 : decode cX3_changeUpward 0 = .ok (.iconst 0, 1) := by decide +kernel
theorem dX3_changeUpward_1 : decode cX3_changeUpward 1 = .ok (.istore_n 1, 1) := by decide +kernel
theorem dX3_changeUpward_2 : decode cX3_changeUpward 2 = .ok (.iconst 0, 1) := by decide +kernel
theorem dX3_changeUpward_3 : decode cX3_changeUpward 3 = .ok (.istore_n 2, 1) := by decide +kernel
theorem dX3_changeUpward_4 : decode cX3_changeUpward 4 = .ok (.iload_n 2, 1) := by decide +kernel
theorem dX3_changeUpward_5 : decode cX3_changeUpward 5 = .ok (.bipush 12, 2) := by decide +kernel
theorem dX3_changeUpward_7 : decode cX3_changeUpward 7 = .ok (.if_icmp .ge 69, 3) := by decide +kernel
theorem dX3_changeUpward_10 : decode cX3_changeUpward 10 = .ok (.aload_n 0, 1) := by decide +kernel
theorem dX3_changeUpward_11 : decode cX3_changeUpward 11 = .ok (.getfield 15, 3) := by decide +kernel
theorem dX3_changeUpward_14 : decode cX3_changeUpward 14 = .ok (.iload_n 2, 1) := by decide +kernel
theorem dX3_changeUpward_15 : decode cX3_changeUpward 15 = .ok (.iaload, 1) := by decide +kernel
theorem dX3_changeUpward_16 : decode cX3_changeUpward 16 = .ok (.getstatic 46, 3) := by decide +kernel
theorem dX3_changeUpward_19 : decode cX3_changeUpward 19 = .ok (.iload_n 2, 1) := by decide +kernel
theorem dX3_changeUpward_20 : decode cX3_changeUpward 20 = .ok (.iaload, 1) := by decide +kernel
theorem dX3_changeUpward_21 : decode cX3_changeUpward 21 = .ok (.idiv, 1) := by decide +kernel
theorem dX3_changeUpward_22 : decode cX3_changeUpward 22 = .ok (.istore_n 3, 1) := by decide +kernel
theorem dX3_changeUpward_23 : decode cX3_changeUpward 23 = .ok (.aload_n 0, 1) := by decide +kernel
theorem dX3_changeUpward_24 : decode cX3_changeUpward 24 = .ok (.getfield 15, 3) := by decide +kernel
theorem dX3_changeUpward_27 : decode cX3_changeUpward 27 = .ok (.iload_n 2, 1) := by decide +kernel
theorem dX3_changeUpward_28 : decode cX3_changeUpward 28 = .ok (.dup2, 1) := by decide +kernel
theorem dX3_changeUpward_29 : decode cX3_changeUpward 29 = .ok (.iaload, 1) := by decide +kernel
theorem dX3_changeUpward_30 : decode cX3_changeUpward 30 = .ok (.iload_n 3, 1) := by decide +kernel
theorem dX3_changeUpward_31 : decode cX3_changeUpward 31 = .ok (.getstatic 46, 3) := by decide +kernel
theorem dX3_changeUpward_34 : decode cX3_changeUpward 34 = .ok (.iload_n 2, 1) := by decide +kernel
theorem dX3_changeUpward_35 : decode cX3_changeUpward 35 = .ok (.iaload, 1) := by decide +kernel
theorem dX3_changeUpward_36 : decode cX3_changeUpward 36 = .ok (.imul, 1) := by decide +kernel
theorem dX3_changeUpward_37 : decode cX3_changeUpward 37 = .ok (.isub, 1) := by decide +kernel
theorem dX3_changeUpward_38 : decode cX3_changeUpward 38 = .ok (.iastore, 1) := by decide +kernel
theorem dX3_changeUpward_39 : decode cX3_changeUpward 39 = .ok (.aload_n 0, 1) := by decide +kernel
theorem dX3_changeUpward_40 : decode cX3_changeUpward 40 = .ok (.getfield 15, 3) := by decide +kernel
theorem dX3_changeUpward_43 : decode cX3_changeUpward 43 = .ok (.iload_n 2, 1) := by decide +kernel
theorem dX3_changeUpward_44 : decode cX3_changeUpward 44 = .ok (.iconst 1, 1) := by decide +kernel
theorem dX3_changeUpward_45 : decode cX3_changeUpward 45 = .ok (.iadd, 1) := by decide +kernel
theorem dX3_changeUpward_46 : decode cX3_changeUpward 46 = .ok (.dup2, 1) := by decide +kernel
theorem dX3_changeUpward_47 : decode cX3_changeUpward 47 = .ok (.iaload, 1) := by decide +kernel
theorem dX3_changeUpward_48 : decode cX3_changeUpward 48 = .ok (.iload_n 3, 1) := by decide +kernel
theorem dX3_changeUpward_49 : decode cX3_changeUpward 49 = .ok (.iadd, 1) := by decide +kernel
theorem dX3_changeUpward_50 : decode cX3_changeUpward 50 = .ok (.iastore, 1) := by decide +kernel
theorem dX3_changeUpward_51 : decode cX3_changeUpward 51 = .ok (.iload_n 1, 1) := by decide +kernel
theorem dX3_changeUpward_52 : decode cX3_changeUpward 52 = .ok (.iload_n 3, 1) := by decide +kernel
theorem dX3_changeUpward_53 : decode cX3_changeUpward 53 = .ok (.iadd, 1) := by decide +kernel
theorem dX3_changeUpward_54 : decode cX3_changeUpward 54 = .ok (.istore_n 1, 1) := by decide +kernel
theorem dX3_changeUpward_55 : decode cX3_changeUpward 55 = .ok (.aload_n 0, 1) := by decide +kernel
theorem dX3_changeUpward_56 : decode cX3_changeUpward 56 = .ok (.getfield 15, 3) := by decide +kernel
theorem dX3_changeUpward_59 : decode cX3_changeUpward 59 = .ok (.iload_n 2, 1) := by decide +kernel
theorem dX3_changeUpward_60 : decode cX3_changeUpward 60 = .ok (.iconst 1, 1) := by decide +kernel
theorem dX3_changeUpward_61 : decode cX3_changeUpward 61 = .ok (.iadd, 1) := by decide +kernel
theorem dX3_changeUpward_62 : decode cX3_changeUpward 62 = .ok (.iaload, 1) := by decide +kernel
theorem dX3_changeUpward_63 : decode cX3_changeUpward 63 = .ok (.bipush 99, 2) := by decide +kernel
theorem dX3_changeUpward_65 : decode cX3_changeUpward 65 = .ok (.if_icmp .le 5, 3) := by decide +kernel
theorem dX3_changeUpward_68 : decode cX3_changeUpward 68 = .ok (.iconst (-1), 1) := by decide +kernel
theorem dX3_changeUpward_69 : decode cX3_changeUpward 69 = .ok (.ireturn, 1) := by decide +kernel
theorem dX3_changeUpward_70 : decode cX3_changeUpward 70 = .ok (.iinc 2 1, 3) := by decide +kernel
theorem dX3_changeUpward_73 : decode cX3_changeUpward 73 = .ok (.goto (-69), 3) := by decide +kernel
theorem dX3_changeUpward_76 : decode cX3_changeUpward 76 = .ok (.iload_n 1, 1) := by decide +kernel
theorem dX3_changeUpward_77 : decode cX3_changeUpward 77 = .ok (.ireturn, 1) := by decide +kernel
theorem zy_X3_changeUpward : zYv yX3_changeUpward cX3_changeUpward 4 (some .int) 0 := ⟨zw_444, zws_1, zw_2, zw_445, by decide, by decide, by decide⟩
theorem c_X3_changeUpward_b4 {C : zC} {I : Nat → Nat → Int32} {J : Nat → Nat → Int64} {Rr : Nat → Nat → Option Nat} {D : zD} (N : Nat) (rr : Int32) (y_v_trial : (Nat → Int32)) (E : zE C RX3 cX3_changeUpward 4 (some .int) ({ frames := 0, cells := 0, slots := 0, locals := 0 } : Room)) (hQ : C.Q = zQi C ({ frames := 0, cells := 0, slots := 0, locals := 0 } : Room) rr ((va_up I 3 y_v_trial), J, Rr, D))  : ∀ (n9 : Nat) (x1 : Int32) (x2 : Int32) (v_trial : (Nat → Int32)), pCounters_changeUpward_b4 N n9 x1 x2 v_trial = some (rr, y_v_trial) → zB C (0, 0) 4 [(0, .ref (C.X.1 + 1)), (1, .int x1), (2, .int x2)] [] ((va_up I 3 v_trial), J, Rr, D) := by
  refine zlp3_ind (P := fun (x1 : Int32) (x2 : Int32) (v_trial : (Nat → Int32)) => zB C (0, 0) 4 [(0, .ref (C.X.1 + 1)), (1, .int x1), (2, .int x2)] [] ((va_up I 3 v_trial), J, Rr, D)) (fun self ih => ?_)
  intro x1 x2 v_trial h
  refine zb_iload_n E dX3_changeUpward_4 2 rfl rfl ?_
  refine zb_bipush E dX3_changeUpward_5 (v := 12) rfl ?_
  refine zb_icmp_ge E dX3_changeUpward_7 (tgt := 76) rfl (fun hc => ?_) (fun hc => ?_)
  · have h := if_t h hc
    refine zb_iload_n E dX3_changeUpward_76 1 rfl rfl ?_
    obtain ⟨rfl, rfl⟩ := zinj2 h
    exact zb_iret E hQ rfl ⟨Nat.zero_le _, Nat.zero_le _⟩ dX3_changeUpward_77
  · have h := if_f h hc
    refine zb_aload_n E dX3_changeUpward_10 0 rfl rfl ?_
    refine zb_get E 1 (by decide) (zF_1 C.X) rfl zin3 1 (by decide) zw_36 (v := .ref (C.X.1 + 3)) rfl dX3_changeUpward_11 ?_
    refine zb_iload_n E dX3_changeUpward_14 2 rfl rfl ?_
    obtain ⟨g1, h⟩ := gd_s h
    refine zb_iald E 3 (by decide) zF_3 (f := v_trial) rfl (ib_in g1) dX3_changeUpward_15 ?_
    refine zb_gets1 E zw_446 dX3_changeUpward_16 ?_
    refine zb_iload_n E dX3_changeUpward_19 2 rfl rfl ?_
    obtain ⟨g2, h⟩ := gd_s h
    refine zb_tald1 E (ib_in g2) dX3_changeUpward_20 ?_
    obtain ⟨g3, h⟩ := gd_s h
    refine zb_idiv E dX3_changeUpward_21 (nz_i g3) ?_
    refine zb_istore_n E dX3_changeUpward_22 rfl (by decide) (lv2 := [(3, .int ((v_trial (ix x2)) / (zc1.getD (ix x2) 0))), (0, .ref (C.X.1 + 1)), (1, .int x1), (2, .int x2)]) rfl ?_
    refine zb_aload_n E dX3_changeUpward_23 1 rfl rfl ?_
    refine zb_get E 1 (by decide) (zF_1 C.X) rfl zin3 1 (by decide) zw_36 (v := .ref (C.X.1 + 3)) rfl dX3_changeUpward_24 ?_
    refine zb_iload_n E dX3_changeUpward_27 3 rfl rfl ?_
    refine zb_dup2_11 E dX3_changeUpward_28 rfl rfl ?_
    refine zb_iald E 3 (by decide) zF_3 (f := v_trial) rfl (ib_in g1) dX3_changeUpward_29 ?_
    refine zb_iload_n E dX3_changeUpward_30 0 rfl rfl ?_
    refine zb_gets1 E zw_446 dX3_changeUpward_31 ?_
    refine zb_iload_n E dX3_changeUpward_34 3 rfl rfl ?_
    refine zb_tald1 E (ib_in g2) dX3_changeUpward_35 ?_
    refine zb_imul E dX3_changeUpward_36 ?_
    refine zb_isub E dX3_changeUpward_37 ?_
    refine zb_iast E 3 (by decide) zF_3 (f := v_trial) rfl (ib_in g1) dX3_changeUpward_38 (I2 := (va_up I 3 (upd v_trial (ix x2) ((v_trial (ix x2)) - (((v_trial (ix x2)) / (zc1.getD (ix x2) 0)) * (zc1.getD (ix x2) 0)))))) zn1 ?_
    refine zb_aload_n E dX3_changeUpward_39 1 rfl rfl ?_
    refine zb_get E 1 (by decide) (zF_1 C.X) rfl zin3 1 (by decide) zw_36 (v := .ref (C.X.1 + 3)) rfl dX3_changeUpward_40 ?_
    refine zb_iload_n E dX3_changeUpward_43 3 rfl rfl ?_
    refine zb_iconst E dX3_changeUpward_44 (v := 1) rfl ?_
    refine zb_iadd E dX3_changeUpward_45 ?_
    refine zb_dup2_11 E dX3_changeUpward_46 rfl rfl ?_
    obtain ⟨g4, h⟩ := gd_s h
    refine zb_iald E 3 (by decide) zF_3 (f := (upd v_trial (ix x2) ((v_trial (ix x2)) - (((v_trial (ix x2)) / (zc1.getD (ix x2) 0)) * (zc1.getD (ix x2) 0))))) rfl (ib_in g4) dX3_changeUpward_47 ?_
    refine zb_iload_n E dX3_changeUpward_48 0 rfl rfl ?_
    refine zb_iadd E dX3_changeUpward_49 ?_
    refine zb_iast E 3 (by decide) zF_3 (f := (upd v_trial (ix x2) ((v_trial (ix x2)) - (((v_trial (ix x2)) / (zc1.getD (ix x2) 0)) * (zc1.getD (ix x2) 0))))) rfl (ib_in g4) dX3_changeUpward_50 (I2 := (va_up I 3 (upd (upd v_trial (ix x2) ((v_trial (ix x2)) - (((v_trial (ix x2)) / (zc1.getD (ix x2) 0)) * (zc1.getD (ix x2) 0)))) (ix (x2 + 1)) (((upd v_trial (ix x2) ((v_trial (ix x2)) - (((v_trial (ix x2)) / (zc1.getD (ix x2) 0)) * (zc1.getD (ix x2) 0)))) (ix (x2 + 1))) + ((v_trial (ix x2)) / (zc1.getD (ix x2) 0)))))) zn1 ?_
    refine zb_iload_n E dX3_changeUpward_51 2 rfl rfl ?_
    refine zb_iload_n E dX3_changeUpward_52 0 rfl rfl ?_
    refine zb_iadd E dX3_changeUpward_53 ?_
    refine zb_istore_n E dX3_changeUpward_54 rfl (by decide) (lv2 := [(1, .int (x1 + ((v_trial (ix x2)) / (zc1.getD (ix x2) 0)))), (3, .int ((v_trial (ix x2)) / (zc1.getD (ix x2) 0))), (0, .ref (C.X.1 + 1)), (2, .int x2)]) rfl ?_
    refine zb_aload_n E dX3_changeUpward_55 2 rfl rfl ?_
    refine zb_get E 1 (by decide) (zF_1 C.X) rfl zin3 1 (by decide) zw_36 (v := .ref (C.X.1 + 3)) rfl dX3_changeUpward_56 ?_
    refine zb_iload_n E dX3_changeUpward_59 3 rfl rfl ?_
    refine zb_iconst E dX3_changeUpward_60 (v := 1) rfl ?_
    refine zb_iadd E dX3_changeUpward_61 ?_
    refine zb_iald E 3 (by decide) zF_3 (f := (upd (upd v_trial (ix x2) ((v_trial (ix x2)) - (((v_trial (ix x2)) / (zc1.getD (ix x2) 0)) * (zc1.getD (ix x2) 0)))) (ix (x2 + 1)) (((upd v_trial (ix x2) ((v_trial (ix x2)) - (((v_trial (ix x2)) / (zc1.getD (ix x2) 0)) * (zc1.getD (ix x2) 0)))) (ix (x2 + 1))) + ((v_trial (ix x2)) / (zc1.getD (ix x2) 0))))) rfl (ib_in g4) dX3_changeUpward_62 ?_
    refine zb_bipush E dX3_changeUpward_63 (v := 99) rfl ?_
    refine zb_icmp_le E dX3_changeUpward_65 (tgt := 70) rfl (fun hc => ?_) (fun hc => ?_)
    · have h := if_t h hc
      refine zb_iinc E dX3_changeUpward_70 3 rfl (v := (x2 + 1)) rfl (by decide) (lv2 := [(2, .int (x2 + 1)), (1, .int (x1 + ((v_trial (ix x2)) / (zc1.getD (ix x2) 0)))), (3, .int ((v_trial (ix x2)) / (zc1.getD (ix x2) 0))), (0, .ref (C.X.1 + 1))]) rfl ?_
      refine zb_goto E dX3_changeUpward_73 (tgt := 4) rfl ?_
      refine zb_sub [3, 1, 0] rfl ?_
      exact ih (x1 + ((v_trial (ix x2)) / (zc1.getD (ix x2) 0))) (x2 + 1) (upd (upd v_trial (ix x2) ((v_trial (ix x2)) - (((v_trial (ix x2)) / (zc1.getD (ix x2) 0)) * (zc1.getD (ix x2) 0)))) (ix (x2 + 1)) (((upd v_trial (ix x2) ((v_trial (ix x2)) - (((v_trial (ix x2)) / (zc1.getD (ix x2) 0)) * (zc1.getD (ix x2) 0)))) (ix (x2 + 1))) + ((v_trial (ix x2)) / (zc1.getD (ix x2) 0)))) h
    · have h := if_f h hc
      refine zb_iconst E dX3_changeUpward_68 (v := (-1)) rfl ?_
      obtain ⟨rfl, rfl⟩ := zinj2 h
      exact zb_iret E hQ rfl ⟨Nat.zero_le _, Nat.zero_le _⟩ dX3_changeUpward_69
theorem c_X3_changeUpward_0 {C : zC} {I : Nat → Nat → Int32} {J : Nat → Nat → Int64} {Rr : Nat → Nat → Option Nat} {D : zD} (N : Nat) (rr : Int32) (y_v_trial : (Nat → Int32)) (E : zE C RX3 cX3_changeUpward 4 (some .int) ({ frames := 0, cells := 0, slots := 0, locals := 0 } : Room)) (hQ : C.Q = zQi C ({ frames := 0, cells := 0, slots := 0, locals := 0 } : Room) rr ((va_up I 3 y_v_trial), J, Rr, D)) (v_trial : (Nat → Int32)) (h : pCounters_changeUpward N v_trial = some (rr, y_v_trial)) : zB C (0, 0) 0 [(0, .ref (C.X.1 + 1))] [] ((va_up I 3 v_trial), J, Rr, D) := by
  refine zb_iconst E dX3_changeUpward_0 (v := 0) rfl ?_
  refine zb_istore_n E dX3_changeUpward_1 rfl (by decide) (lv2 := [(1, .int 0), (0, .ref (C.X.1 + 1))]) rfl ?_
  refine zb_iconst E dX3_changeUpward_2 (v := 0) rfl ?_
  refine zb_istore_n E dX3_changeUpward_3 rfl (by decide) (lv2 := [(2, .int 0), (1, .int 0), (0, .ref (C.X.1 + 1))]) rfl ?_
  refine zb_sub [2, 1, 0] rfl ?_
  exact c_X3_changeUpward_b4 N rr y_v_trial E hQ _ 0 0 v_trial h
theorem c_X3_changeUpward {l : Launch} {X : zX} {I : Nat → Nat → Int32} {J : Nat → Nat → Int64} {Rr : Nat → Nat → Option Nat} {D : zD} {N : Nat} (v_trial : (Nat → Int32)) (e_v_trial : I 3 = v_trial) {rr : Int32} {y_v_trial : (Nat → Int32)} (h : pCounters_changeUpward N v_trial = some (rr, y_v_trial)) : zMi l yX3_changeUpward cX3_changeUpward 4 (some .int) ({ frames := 0, cells := 0, slots := 0, locals := 0 } : Room) X [.ref (X.1 + 1)] (I, J, Rr, D) rr ((va_up I 3 y_v_trial), J, Rr, D) := by
  refine zMi.of (by decide) (Nat.le_of_ble_eq_true rfl) (fun C E hl hX hQ => ?_)
  subst hl
  subst hX
  have eI0 : (va_up I 3 v_trial) = I := by rw [zup_idE e_v_trial]
  have eJ0 : J = J := rfl
  refine zb_S (S2 := ((va_up I 3 v_trial), J, Rr, D)) (zS_eq eI0.symm eJ0.symm) ?_
  exact c_X3_changeUpward_0 N rr y_v_trial E hQ v_trial h
-- ChequeredCloth$Counters.add
theorem dX3_add_0 : decode cX3_add 0 = .ok (.aload_n 0, 1) := by decide +kernel
theorem dX3_add_1 : decode cX3_add 1 = .ok (.iload_n 1, 1) := by decide +kernel
theorem dX3_add_2 : decode cX3_add 2 = .ok (.invokevirtual 28, 3) := by decide +kernel
theorem dX3_add_5 : decode cX3_add 5 = .ok (.ifCond .ne 5, 3) := by decide +kernel
theorem dX3_add_8 : decode cX3_add 8 = .ok (.iconst (-1), 1) := by decide +kernel
theorem dX3_add_9 : decode cX3_add 9 = .ok (.ireturn, 1) := by decide +kernel
theorem dX3_add_10 : decode cX3_add 10 = .ok (.iconst 0, 1) := by decide +kernel
theorem dX3_add_11 : decode cX3_add 11 = .ok (.istore_n 2, 1) := by decide +kernel
theorem dX3_add_12 : decode cX3_add 12 = .ok (.iload_n 2, 1) := by decide +kernel
theorem dX3_add_13 : decode cX3_add 13 = .ok (.bipush 13, 2) := by decide +kernel
theorem dX3_add_15 : decode cX3_add 15 = .ok (.if_icmp .ge 41, 3) := by decide +kernel
theorem dX3_add_18 : decode cX3_add 18 = .ok (.aload_n 0, 1) := by decide +kernel
theorem dX3_add_19 : decode cX3_add 19 = .ok (.getfield 15, 3) := by decide +kernel
theorem dX3_add_22 : decode cX3_add 22 = .ok (.iload_n 2, 1) := by decide +kernel
theorem dX3_add_23 : decode cX3_add 23 = .ok (.aload_n 0, 1) := by decide +kernel
theorem dX3_add_24 : decode cX3_add 24 = .ok (.getfield 11, 3) := by decide +kernel
theorem dX3_add_27 : decode cX3_add 27 = .ok (.iload_n 2, 1) := by decide +kernel
theorem dX3_add_28 : decode cX3_add 28 = .ok (.iaload, 1) := by decide +kernel
theorem dX3_add_29 : decode cX3_add 29 = .ok (.aload_n 0, 1) := by decide +kernel
theorem dX3_add_30 : decode cX3_add 30 = .ok (.getfield 18, 3) := by decide +kernel
theorem dX3_add_33 : decode cX3_add 33 = .ok (.iload_n 2, 1) := by decide +kernel
theorem dX3_add_34 : decode cX3_add 34 = .ok (.iaload, 1) := by decide +kernel
theorem dX3_add_35 : decode cX3_add 35 = .ok (.iadd, 1) := by decide +kernel
theorem dX3_add_36 : decode cX3_add 36 = .ok (.iastore, 1) := by decide +kernel
theorem dX3_add_37 : decode cX3_add 37 = .ok (.aload_n 0, 1) := by decide +kernel
theorem dX3_add_38 : decode cX3_add 38 = .ok (.getfield 15, 3) := by decide +kernel
theorem dX3_add_41 : decode cX3_add 41 = .ok (.iload_n 2, 1) := by decide +kernel
theorem dX3_add_42 : decode cX3_add 42 = .ok (.iaload, 1) := by decide +kernel
theorem dX3_add_43 : decode cX3_add 43 = .ok (.bipush 99, 2) := by decide +kernel
theorem dX3_add_45 : decode cX3_add 45 = .ok (.if_icmp .le 5, 3) := by decide +kernel
theorem dX3_add_48 : decode cX3_add 48 = .ok (.iconst (-1), 1) := by decide +kernel
theorem dX3_add_49 : decode cX3_add 49 = .ok (.ireturn, 1) := by decide +kernel
theorem dX3_add_50 : decode cX3_add 50 = .ok (.iinc 2 1, 3) := by decide +kernel
theorem dX3_add_53 : decode cX3_add 53 = .ok (.goto (-41), 3) := by decide +kernel
theorem dX3_add_56 : decode cX3_add 56 = .ok (.aload_n 0, 1) := by decide +kernel
theorem dX3_add_57 : decode cX3_add 57 = .ok (.invokevirtual 31, 3) := by decide +kernel
theorem dX3_add_60 : decode cX3_add 60 = .ok (.istore_n 2, 1) := by decide +kernel
theorem dX3_add_61 : decode cX3_add 61 = .ok (.iload_n 2, 1) := by decide +kernel
theorem dX3_add_62 : decode cX3_add 62 = .ok (.iconst (-1), 1) := by decide +kernel
theorem dX3_add_63 : decode cX3_add 63 = .ok (.if_icmp .eq 18, 3) := by decide +kernel
theorem dX3_add_66 : decode cX3_add 66 = .ok (.aload_n 0, 1) := by decide +kernel
theorem dX3_add_67 : decode cX3_add 67 = .ok (.getfield 15, 3) := by decide +kernel
theorem dX3_add_70 : decode cX3_add 70 = .ok (.iconst 0, 1) := by decide +kernel
theorem dX3_add_71 : decode cX3_add 71 = .ok (.aload_n 0, 1) := by decide +kernel
theorem dX3_add_72 : decode cX3_add 72 = .ok (.getfield 11, 3) := by decide +kernel
theorem dX3_add_75 : decode cX3_add 75 = .ok (.iconst 0, 1) := by decide +kernel
theorem dX3_add_76 : decode cX3_add 76 = .ok (.bipush 13, 2) := by decide +kernel
theorem dX3_add_78 : decode cX3_add 78 = .ok (.invokestatic 35, 3) := by decide +kernel
theorem dX3_add_81 : decode cX3_add 81 = .ok (.iload_n 2, 1) := by decide +kernel
theorem dX3_add_82 : decode cX3_add 82 = .ok (.ireturn, 1) := by decide +kernel
theorem zy_X3_add : zYv yX3_add cX3_add 3 (some .int) 1 := ⟨zw_439, zw_440, zw_2, zw_441, by decide, by decide, by decide⟩
theorem c_X3_add_b12 {C : zC} {I : Nat → Nat → Int32} {J : Nat → Nat → Int64} {Rr : Nat → Nat → Option Nat} {D : zD} (N : Nat) (a1 : Int32) (rr : Int32) (y_v_due : (Nat → Int32)) (y_v_lying : (Nat → Int32)) (y_v_trial : (Nat → Int32)) (E : zE C RX3 cX3_add 3 (some .int) ({ frames := 1, cells := 0, slots := 0, locals := 72 } : Room)) (hQ : C.Q = zQi C ({ frames := 1, cells := 0, slots := 0, locals := 72 } : Room) rr ((va_up (va_up (va_up I 2 y_v_lying) 3 y_v_trial) 4 y_v_due), J, Rr, D)) (v_due : (Nat → Int32)) (v_lying : (Nat → Int32)) (k56 : (Nat → Int32) → Option R_pCounters_add) (hk56 : ∀ (v_trial : (Nat → Int32)), k56 v_trial = some (rr, y_v_due, y_v_lying, y_v_trial) → zB C (0, 0) 56 [(0, .ref (C.X.1 + 1))] [] ((va_up (va_up (va_up I 2 v_lying) 3 v_trial) 4 v_due), J, Rr, D)) : ∀ (n9 : Nat) (x2 : Int32) (v_trial : (Nat → Int32)), pCounters_add_b12 N a1 v_due v_lying k56 n9 x2 v_trial = some (rr, y_v_due, y_v_lying, y_v_trial) → zB C (0, 0) 12 [(0, .ref (C.X.1 + 1)), (2, .int x2)] [] ((va_up (va_up (va_up I 2 v_lying) 3 v_trial) 4 v_due), J, Rr, D) := by
  refine zlp2_ind (P := fun (x2 : Int32) (v_trial : (Nat → Int32)) => zB C (0, 0) 12 [(0, .ref (C.X.1 + 1)), (2, .int x2)] [] ((va_up (va_up (va_up I 2 v_lying) 3 v_trial) 4 v_due), J, Rr, D)) (fun self ih => ?_)
  intro x2 v_trial h
  refine zb_iload_n E dX3_add_12 1 rfl rfl ?_
  refine zb_bipush E dX3_add_13 (v := 13) rfl ?_
  refine zb_icmp_ge E dX3_add_15 (tgt := 56) rfl (fun hc => ?_) (fun hc => ?_)
  · have h := if_t h hc
    refine zb_sub [0] rfl ?_
    exact hk56 v_trial h
  · have h := if_f h hc
    refine zb_aload_n E dX3_add_18 0 rfl rfl ?_
    refine zb_get E 1 (by decide) (zF_1 C.X) rfl zin3 1 (by decide) zw_36 (v := .ref (C.X.1 + 3)) rfl dX3_add_19 ?_
    refine zb_iload_n E dX3_add_22 1 rfl rfl ?_
    refine zb_aload_n E dX3_add_23 0 rfl rfl ?_
    refine zb_get E 1 (by decide) (zF_1 C.X) rfl zin3 0 (by decide) zw_35 (v := .ref (C.X.1 + 2)) rfl dX3_add_24 ?_
    refine zb_iload_n E dX3_add_27 1 rfl rfl ?_
    obtain ⟨g2, h⟩ := gd_s h
    refine zb_iald E 2 (by decide) zF_2 (f := v_lying) rfl (ib_in g2) dX3_add_28 ?_
    refine zb_aload_n E dX3_add_29 0 rfl rfl ?_
    refine zb_get E 1 (by decide) (zF_1 C.X) rfl zin3 2 (by decide) zw_37 (v := .ref (C.X.1 + 4)) rfl dX3_add_30 ?_
    refine zb_iload_n E dX3_add_33 1 rfl rfl ?_
    refine zb_iald E 4 (by decide) zF_4 (f := v_due) rfl (ib_in g2) dX3_add_34 ?_
    refine zb_iadd E dX3_add_35 ?_
    refine zb_iast E 3 (by decide) zF_3 (f := v_trial) rfl (ib_in g2) dX3_add_36 (I2 := (va_up (va_up (va_up I 2 v_lying) 3 (upd v_trial (ix x2) ((v_lying (ix x2)) + (v_due (ix x2))))) 4 v_due)) (zn2 (by decide : (4 : Nat) ≠ 3)) ?_
    refine zb_aload_n E dX3_add_37 0 rfl rfl ?_
    refine zb_get E 1 (by decide) (zF_1 C.X) rfl zin3 1 (by decide) zw_36 (v := .ref (C.X.1 + 3)) rfl dX3_add_38 ?_
    refine zb_iload_n E dX3_add_41 1 rfl rfl ?_
    refine zb_iald E 3 (by decide) zF_3 (f := (upd v_trial (ix x2) ((v_lying (ix x2)) + (v_due (ix x2))))) rfl (ib_in g2) dX3_add_42 ?_
    refine zb_bipush E dX3_add_43 (v := 99) rfl ?_
    refine zb_icmp_le E dX3_add_45 (tgt := 50) rfl (fun hc => ?_) (fun hc => ?_)
    · have h := if_t h hc
      refine zb_iinc E dX3_add_50 1 rfl (v := (x2 + 1)) rfl (by decide) (lv2 := [(2, .int (x2 + 1)), (0, .ref (C.X.1 + 1))]) rfl ?_
      refine zb_goto E dX3_add_53 (tgt := 12) rfl ?_
      refine zb_sub [1, 0] rfl ?_
      exact ih (x2 + 1) (upd v_trial (ix x2) ((v_lying (ix x2)) + (v_due (ix x2)))) h
    · have h := if_f h hc
      refine zb_iconst E dX3_add_48 (v := (-1)) rfl ?_
      obtain ⟨rfl, rfl, rfl, rfl⟩ := zinj4 h
      exact zb_iret E hQ rfl ⟨Nat.zero_le _, Nat.zero_le _⟩ dX3_add_49
theorem c_X3_add_b56 {C : zC} {I : Nat → Nat → Int32} {J : Nat → Nat → Int64} {Rr : Nat → Nat → Option Nat} {D : zD} (N : Nat) (a1 : Int32) (rr : Int32) (y_v_due : (Nat → Int32)) (y_v_lying : (Nat → Int32)) (y_v_trial : (Nat → Int32)) (E : zE C RX3 cX3_add 3 (some .int) ({ frames := 1, cells := 0, slots := 0, locals := 72 } : Room)) (hQ : C.Q = zQi C ({ frames := 1, cells := 0, slots := 0, locals := 72 } : Room) rr ((va_up (va_up (va_up I 2 y_v_lying) 3 y_v_trial) 4 y_v_due), J, Rr, D)) (v_due : (Nat → Int32)) (v_lying : (Nat → Int32)) (v_trial : (Nat → Int32)) (h : pCounters_add_b56 N a1 v_due v_lying v_trial = some (rr, y_v_due, y_v_lying, y_v_trial)) : zB C (0, 0) 56 [(0, .ref (C.X.1 + 1))] [] ((va_up (va_up (va_up I 2 v_lying) 3 v_trial) 4 v_due), J, Rr, D) := by
  refine zb_aload_n E dX3_add_56 0 rfl rfl ?_
  obtain ⟨rc3, v_trial_c3, hc_57, h⟩ := bd2_s h
  refine zb_cVi E [] 1 zy_X3_changeUpward zw_442 (by decide) (zF_1 _ _ _ _) rfl (c_X3_changeUpward v_trial rfl hc_57) (by decide) rfl rfl (by first | decide | simp [Value.category]) dX3_add_57 (cs2 := (0, 0)) rfl ?_
  refine zb_S (S2 := ((va_up (va_up (va_up I 2 v_lying) 3 v_trial_c3) 4 v_due), J, Rr, D)) (zS_eq (zn2 (by decide : (4 : Nat) ≠ 3)) rfl) ?_
  refine zb_istore_n E dX3_add_60 rfl (by decide) (lv2 := [(2, .int rc3), (0, .ref (C.X.1 + 1))]) rfl ?_
  refine zb_iload_n E dX3_add_61 0 rfl rfl ?_
  refine zb_iconst E dX3_add_62 (v := (-1)) rfl ?_
  refine zb_icmp_eq E dX3_add_63 (tgt := 81) rfl (fun hc => ?_) (fun hc => ?_)
  · have h := if_t h hc
    refine zb_iload_n E dX3_add_81 0 rfl rfl ?_
    obtain ⟨rfl, rfl, rfl, rfl⟩ := zinj4 h
    exact zb_iret E hQ rfl ⟨Nat.zero_le _, Nat.zero_le _⟩ dX3_add_82
  · have h := if_f h hc
    refine zb_aload_n E dX3_add_66 1 rfl rfl ?_
    refine zb_get E 1 (by decide) (zF_1 C.X) rfl zin3 1 (by decide) zw_36 (v := .ref (C.X.1 + 3)) rfl dX3_add_67 ?_
    refine zb_iconst E dX3_add_70 (v := 0) rfl ?_
    refine zb_aload_n E dX3_add_71 1 rfl rfl ?_
    refine zb_get E 1 (by decide) (zF_1 C.X) rfl zin3 0 (by decide) zw_35 (v := .ref (C.X.1 + 2)) rfl dX3_add_72 ?_
    refine zb_iconst E dX3_add_75 (v := 0) rfl ?_
    refine zb_bipush E dX3_add_76 (v := 13) rfl ?_
    refine zb_copyI E 3 2 (by decide) (by decide) zF_3 zF_2 (f := v_trial_c3) rfl (g := v_lying) rfl (by decide) zw_448 (by decide) (by first | decide | simp [Value.category]) dX3_add_78 (I2 := (va_up (va_up (va_up I 2 (va_cpy v_trial_c3 v_lying (ix 0) (ix 0) (ix 13))) 3 v_trial_c3) 4 v_due)) (zn3 (by decide : (4 : Nat) ≠ 2) (by decide : (3 : Nat) ≠ 2)) ?_
    refine zb_iload_n E dX3_add_81 0 rfl rfl ?_
    obtain ⟨rfl, rfl, rfl, rfl⟩ := zinj4 h
    exact zb_iret E hQ rfl ⟨Nat.zero_le _, Nat.zero_le _⟩ dX3_add_82
theorem c_X3_add_0 {C : zC} {I : Nat → Nat → Int32} {J : Nat → Nat → Int64} {Rr : Nat → Nat → Option Nat} {D : zD} (N : Nat) (a1 : Int32) (rr : Int32) (y_v_due : (Nat → Int32)) (y_v_lying : (Nat → Int32)) (y_v_trial : (Nat → Int32)) (E : zE C RX3 cX3_add 3 (some .int) ({ frames := 1, cells := 0, slots := 0, locals := 72 } : Room)) (hQ : C.Q = zQi C ({ frames := 1, cells := 0, slots := 0, locals := 72 } : Room) rr ((va_up (va_up (va_up I 2 y_v_lying) 3 y_v_trial) 4 y_v_due), J, Rr, D)) (v_due : (Nat → Int32)) (v_lying : (Nat → Int32)) (v_trial : (Nat → Int32)) (h : pCounters_add N a1 v_due v_lying v_trial = some (rr, y_v_due, y_v_lying, y_v_trial)) : zB C (0, 0) 0 [(0, .ref (C.X.1 + 1)), (1, .int a1)] [] ((va_up (va_up (va_up I 2 v_lying) 3 v_trial) 4 v_due), J, Rr, D) := by
  refine zb_aload_n E dX3_add_0 0 rfl rfl ?_
  refine zb_iload_n E dX3_add_1 1 rfl rfl ?_
  obtain ⟨rc1, v_due_c1, hc_2, h⟩ := bd2_s h
  refine zb_cVi E [.int a1] 1 zy_X3_tellPlain zw_429 (by decide) (zF_1 _ _ _ _) rfl (c_X3_tellPlain v_due rfl hc_2) (by decide) rfl rfl (by first | decide | simp [Value.category]) dX3_add_2 (cs2 := (0, 0)) rfl ?_
  refine zb_S (S2 := ((va_up (va_up (va_up I 2 v_lying) 3 v_trial) 4 v_due_c1), J, Rr, D)) (zS_eq zn1 rfl) ?_
  refine zb_if_ne E dX3_add_5 (tgt := 10) rfl (fun hc => ?_) (fun hc => ?_)
  · have h := if_f h hc
    refine zb_iconst E dX3_add_10 (v := 0) rfl ?_
    refine zb_istore_n E dX3_add_11 rfl (by decide) (lv2 := [(2, .int 0), (0, .ref (C.X.1 + 1)), (1, .int a1)]) rfl ?_
    refine zb_sub [1, 0] rfl ?_
    exact c_X3_add_b12 N a1 rr y_v_due y_v_lying y_v_trial E hQ v_due_c1 v_lying _ (fun v_trial_z1 h => c_X3_add_b56 N a1 rr y_v_due y_v_lying y_v_trial E hQ v_due_c1 v_lying v_trial_z1 h) _ 0 v_trial h
  · have h := if_t h hc
    refine zb_iconst E dX3_add_8 (v := (-1)) rfl ?_
    obtain ⟨rfl, rfl, rfl, rfl⟩ := zinj4 h
    exact zb_iret E hQ rfl ⟨Nat.zero_le _, Nat.zero_le _⟩ dX3_add_9
theorem c_X3_add {l : Launch} {X : zX} {I : Nat → Nat → Int32} {J : Nat → Nat → Int64} {Rr : Nat → Nat → Option Nat} {D : zD} {N : Nat} {a1 : Int32} (v_due : (Nat → Int32)) (e_v_due : I 4 = v_due) (v_lying : (Nat → Int32)) (e_v_lying : I 2 = v_lying) (v_trial : (Nat → Int32)) (e_v_trial : I 3 = v_trial) {rr : Int32} {y_v_due : (Nat → Int32)} {y_v_lying : (Nat → Int32)} {y_v_trial : (Nat → Int32)} (h : pCounters_add N a1 v_due v_lying v_trial = some (rr, y_v_due, y_v_lying, y_v_trial)) : zMi l yX3_add cX3_add 3 (some .int) ({ frames := 1, cells := 0, slots := 0, locals := 72 } : Room) X [.ref (X.1 + 1), .int a1] (I, J, Rr, D) rr ((va_up (va_up (va_up I 2 y_v_lying) 3 y_v_trial) 4 y_v_due), J, Rr, D) := by
  refine zMi.of (by decide) (Nat.le_of_ble_eq_true rfl) (fun C E hl hX hQ => ?_)
  subst hl
  subst hX
  have eI0 : (va_up (va_up (va_up I 2 v_lying) 3 v_trial) 4 v_due) = I := by rw [zup_idE e_v_lying, zup_idE e_v_trial, zup_idE e_v_due]
  have eJ0 : J = J := rfl
  refine zb_S (S2 := ((va_up (va_up (va_up I 2 v_lying) 3 v_trial) 4 v_due), J, Rr, D)) (zS_eq eI0.symm eJ0.symm) ?_
  exact c_X3_add_0 N a1 rr y_v_due y_v_lying y_v_trial E hQ v_due v_lying v_trial h
-- ChequeredCloth$Counters.breakInto
theorem dX3_breakInto_0 : decode cX3_breakInto 0 = .ok (.iload_n 1, 1) := by decide +kernel
theorem dX3_breakInto_1 : decode cX3_breakInto 1 = .ok (.iconst 1, 1) := by decide +kernel
theorem dX3_breakInto_2 : decode cX3_breakInto 2 = .ok (.iadd, 1) := by decide +kernel
theorem dX3_breakInto_3 : decode cX3_breakInto 3 = .ok (.istore_n 2, 1) := by decide +kernel
theorem dX3_breakInto_4 : decode cX3_breakInto 4 = .ok (.iload_n 2, 1) := by decide +kernel
theorem dX3_breakInto_5 : decode cX3_breakInto 5 = .ok (.bipush 13, 2) := by decide +kernel
theorem dX3_breakInto_7 : decode cX3_breakInto 7 = .ok (.if_icmp .ge 18, 3) := by decide +kernel
theorem dX3_breakInto_10 : decode cX3_breakInto 10 = .ok (.aload_n 0, 1) := by decide +kernel
theorem dX3_breakInto_11 : decode cX3_breakInto 11 = .ok (.getfield 15, 3) := by decide +kernel
theorem dX3_breakInto_14 : decode cX3_breakInto 14 = .ok (.iload_n 2, 1) := by decide +kernel
theorem dX3_breakInto_15 : decode cX3_breakInto 15 = .ok (.iaload, 1) := by decide +kernel
theorem dX3_breakInto_16 : decode cX3_breakInto 16 = .ok (.ifCond .ne 9, 3) := by decide +kernel
theorem dX3_breakInto_19 : decode cX3_breakInto 19 = .ok (.iinc 2 1, 3) := by decide +kernel
theorem dX3_breakInto_22 : decode cX3_breakInto 22 = .ok (.goto (-18), 3) := by decide +kernel
theorem dX3_breakInto_25 : decode cX3_breakInto 25 = .ok (.iload_n 2, 1) := by decide +kernel
theorem dX3_breakInto_26 : decode cX3_breakInto 26 = .ok (.bipush 13, 2) := by decide +kernel
theorem dX3_breakInto_28 : decode cX3_breakInto 28 = .ok (.if_icmp .lt 5, 3) := by decide +kernel
theorem dX3_breakInto_31 : decode cX3_breakInto 31 = .ok (.iconst 0, 1) := by decide +kernel
theorem dX3_breakInto_32 : decode cX3_breakInto 32 = .ok (.ireturn, 1) := by decide +kernel
theorem dX3_breakInto_33 : decode cX3_breakInto 33 = .ok (.iload_n 2, 1) := by decide +kernel
theorem dX3_breakInto_34 : decode cX3_breakInto 34 = .ok (.istore_n 3, 1) := by decide +kernel
theorem dX3_breakInto_35 : decode cX3_breakInto 35 = .ok (.iload_n 3, 1) := by decide +kernel
theorem dX3_breakInto_36 : decode cX3_breakInto 36 = .ok (.iload_n 1, 1) := by decide +kernel
theorem dX3_breakInto_37 : decode cX3_breakInto 37 = .ok (.if_icmp .le 37, 3) := by decide +kernel
theorem dX3_breakInto_40 : decode cX3_breakInto 40 = .ok (.aload_n 0, 1) := by decide +kernel
theorem dX3_breakInto_41 : decode cX3_breakInto 41 = .ok (.getfield 15, 3) := by decide +kernel
theorem dX3_breakInto_44 : decode cX3_breakInto 44 = .ok (.iload_n 3, 1) := by decide +kernel
theorem dX3_breakInto_45 : decode cX3_breakInto 45 = .ok (.dup2, 1) := by decide +kernel
theorem dX3_breakInto_46 : decode cX3_breakInto 46 = .ok (.iaload, 1) := by decide +kernel
theorem dX3_breakInto_47 : decode cX3_breakInto 47 = .ok (.iconst 1, 1) := by decide +kernel
theorem dX3_breakInto_48 : decode cX3_breakInto 48 = .ok (.isub, 1) := by decide +kernel
theorem dX3_breakInto_49 : decode cX3_breakInto 49 = .ok (.iastore, 1) := by decide +kernel
theorem dX3_breakInto_50 : decode cX3_breakInto 50 = .ok (.aload_n 0, 1) := by decide +kernel
theorem dX3_breakInto_51 : decode cX3_breakInto 51 = .ok (.getfield 15, 3) := by decide +kernel
theorem dX3_breakInto_54 : decode cX3_breakInto 54 = .ok (.iload_n 3, 1) := by decide +kernel
theorem dX3_breakInto_55 : decode cX3_breakInto 55 = .ok (.iconst 1, 1) := by decide +kernel
theorem dX3_breakInto_56 : decode cX3_breakInto 56 = .ok (.isub, 1) := by decide +kernel
theorem dX3_breakInto_57 : decode cX3_breakInto 57 = .ok (.dup2, 1) := by decide +kernel
theorem dX3_breakInto_58 : decode cX3_breakInto 58 = .ok (.iaload, 1) := by decide +kernel
theorem dX3_breakInto_59 : decode cX3_breakInto 59 = .ok (.getstatic 46, 3) := by decide +kernel
theorem dX3_breakInto_62 : decode cX3_breakInto 62 = .ok (.iload_n 3, 1) := by decide +kernel
theorem dX3_breakInto_63 : decode cX3_breakInto 63 = .ok (.iconst 1, 1) := by decide +kernel
theorem dX3_breakInto_64 : decode cX3_breakInto 64 = .ok (.isub, 1) := by decide +kernel
theorem dX3_breakInto_65 : decode cX3_breakInto 65 = .ok (.iaload, 1) := by decide +kernel
theorem dX3_breakInto_66 : decode cX3_breakInto 66 = .ok (.iadd, 1) := by decide +kernel
theorem dX3_breakInto_67 : decode cX3_breakInto 67 = .ok (.iastore, 1) := by decide +kernel
theorem dX3_breakInto_68 : decode cX3_breakInto 68 = .ok (.iinc 3 (-1), 3) := by decide +kernel
theorem dX3_breakInto_71 : decode cX3_breakInto 71 = .ok (.goto (-36), 3) := by decide +kernel
theorem dX3_breakInto_74 : decode cX3_breakInto 74 = .ok (.iload_n 2, 1) := by decide +kernel
theorem dX3_breakInto_75 : decode cX3_breakInto 75 = .ok (.iload_n 1, 1) := by decide +kernel
theorem dX3_breakInto_76 : decode cX3_breakInto 76 = .ok (.isub, 1) := by decide +kernel
theorem dX3_breakInto_77 : decode cX3_breakInto 77 = .ok (.ireturn, 1) := by decide +kernel
theorem zy_X3_breakInto : zYv yX3_breakInto cX3_breakInto 4 (some .int) 1 := ⟨zw_461, zws_2, zw_2, zw_462, by decide, by decide, by decide⟩
theorem c_X3_breakInto_b4 {C : zC} {I : Nat → Nat → Int32} {J : Nat → Nat → Int64} {Rr : Nat → Nat → Option Nat} {D : zD} (N : Nat) (a1 : Int32) (rr : Int32) (y_v_trial : (Nat → Int32)) (E : zE C RX3 cX3_breakInto 4 (some .int) ({ frames := 0, cells := 0, slots := 0, locals := 0 } : Room)) (hQ : C.Q = zQi C ({ frames := 0, cells := 0, slots := 0, locals := 0 } : Room) rr ((va_up I 3 y_v_trial), J, Rr, D)) (v_trial : (Nat → Int32)) (k25 : Int32 → Option R_pCounters_breakInto) (hk25 : ∀ (x2 : Int32), k25 x2 = some (rr, y_v_trial) → zB C (0, 0) 25 [(0, .ref (C.X.1 + 1)), (1, .int a1), (2, .int x2)] [] ((va_up I 3 v_trial), J, Rr, D)) : ∀ (n9 : Nat) (x2 : Int32), pCounters_breakInto_b4 N a1 v_trial k25 n9 x2 = some (rr, y_v_trial) → zB C (0, 0) 4 [(0, .ref (C.X.1 + 1)), (1, .int a1), (2, .int x2)] [] ((va_up I 3 v_trial), J, Rr, D) := by
  refine zlp1_ind (P := fun (x2 : Int32) => zB C (0, 0) 4 [(0, .ref (C.X.1 + 1)), (1, .int a1), (2, .int x2)] [] ((va_up I 3 v_trial), J, Rr, D)) (fun self ih => ?_)
  intro x2 h
  refine zb_iload_n E dX3_breakInto_4 2 rfl rfl ?_
  refine zb_bipush E dX3_breakInto_5 (v := 13) rfl ?_
  refine zb_icmp_ge E dX3_breakInto_7 (tgt := 25) rfl (fun hc => ?_) (fun hc => ?_)
  · have h := if_t h hc
    exact hk25 x2 h
  · have h := if_f h hc
    refine zb_aload_n E dX3_breakInto_10 0 rfl rfl ?_
    refine zb_get E 1 (by decide) (zF_1 C.X) rfl zin3 1 (by decide) zw_36 (v := .ref (C.X.1 + 3)) rfl dX3_breakInto_11 ?_
    refine zb_iload_n E dX3_breakInto_14 2 rfl rfl ?_
    obtain ⟨g1, h⟩ := gd_s h
    refine zb_iald E 3 (by decide) zF_3 (f := v_trial) rfl (ib_in g1) dX3_breakInto_15 ?_
    refine zb_if_ne E dX3_breakInto_16 (tgt := 25) rfl (fun hc => ?_) (fun hc => ?_)
    · have h := if_f h hc
      exact hk25 x2 h
    · have h := if_t h hc
      refine zb_iinc E dX3_breakInto_19 2 rfl (v := (x2 + 1)) rfl (by decide) (lv2 := [(2, .int (x2 + 1)), (0, .ref (C.X.1 + 1)), (1, .int a1)]) rfl ?_
      refine zb_goto E dX3_breakInto_22 (tgt := 4) rfl ?_
      refine zb_sub [1, 2, 0] rfl ?_
      exact ih (x2 + 1) h
theorem c_X3_breakInto_b35 {C : zC} {I : Nat → Nat → Int32} {J : Nat → Nat → Int64} {Rr : Nat → Nat → Option Nat} {D : zD} (N : Nat) (a1 : Int32) (rr : Int32) (y_v_trial : (Nat → Int32)) (E : zE C RX3 cX3_breakInto 4 (some .int) ({ frames := 0, cells := 0, slots := 0, locals := 0 } : Room)) (hQ : C.Q = zQi C ({ frames := 0, cells := 0, slots := 0, locals := 0 } : Room) rr ((va_up I 3 y_v_trial), J, Rr, D)) (x2 : Int32)  : ∀ (n9 : Nat) (x3 : Int32) (v_trial : (Nat → Int32)), pCounters_breakInto_b35 N a1 x2 n9 x3 v_trial = some (rr, y_v_trial) → zB C (0, 0) 35 [(0, .ref (C.X.1 + 1)), (1, .int a1), (2, .int x2), (3, .int x3)] [] ((va_up I 3 v_trial), J, Rr, D) := by
  refine zlp2_ind (P := fun (x3 : Int32) (v_trial : (Nat → Int32)) => zB C (0, 0) 35 [(0, .ref (C.X.1 + 1)), (1, .int a1), (2, .int x2), (3, .int x3)] [] ((va_up I 3 v_trial), J, Rr, D)) (fun self ih => ?_)
  intro x3 v_trial h
  refine zb_iload_n E dX3_breakInto_35 3 rfl rfl ?_
  refine zb_iload_n E dX3_breakInto_36 1 rfl rfl ?_
  refine zb_icmp_le E dX3_breakInto_37 (tgt := 74) rfl (fun hc => ?_) (fun hc => ?_)
  · have h := if_t h hc
    refine zb_iload_n E dX3_breakInto_74 2 rfl rfl ?_
    refine zb_iload_n E dX3_breakInto_75 1 rfl rfl ?_
    refine zb_isub E dX3_breakInto_76 ?_
    obtain ⟨rfl, rfl⟩ := zinj2 h
    exact zb_iret E hQ rfl ⟨Nat.zero_le _, Nat.zero_le _⟩ dX3_breakInto_77
  · have h := if_f h hc
    refine zb_aload_n E dX3_breakInto_40 0 rfl rfl ?_
    refine zb_get E 1 (by decide) (zF_1 C.X) rfl zin3 1 (by decide) zw_36 (v := .ref (C.X.1 + 3)) rfl dX3_breakInto_41 ?_
    refine zb_iload_n E dX3_breakInto_44 3 rfl rfl ?_
    refine zb_dup2_11 E dX3_breakInto_45 rfl rfl ?_
    obtain ⟨g2, h⟩ := gd_s h
    refine zb_iald E 3 (by decide) zF_3 (f := v_trial) rfl (ib_in g2) dX3_breakInto_46 ?_
    refine zb_iconst E dX3_breakInto_47 (v := 1) rfl ?_
    refine zb_isub E dX3_breakInto_48 ?_
    refine zb_iast E 3 (by decide) zF_3 (f := v_trial) rfl (ib_in g2) dX3_breakInto_49 (I2 := (va_up I 3 (upd v_trial (ix x3) ((v_trial (ix x3)) - 1)))) zn1 ?_
    refine zb_aload_n E dX3_breakInto_50 0 rfl rfl ?_
    refine zb_get E 1 (by decide) (zF_1 C.X) rfl zin3 1 (by decide) zw_36 (v := .ref (C.X.1 + 3)) rfl dX3_breakInto_51 ?_
    refine zb_iload_n E dX3_breakInto_54 3 rfl rfl ?_
    refine zb_iconst E dX3_breakInto_55 (v := 1) rfl ?_
    refine zb_isub E dX3_breakInto_56 ?_
    refine zb_dup2_11 E dX3_breakInto_57 rfl rfl ?_
    obtain ⟨g3, h⟩ := gd_s h
    refine zb_iald E 3 (by decide) zF_3 (f := (upd v_trial (ix x3) ((v_trial (ix x3)) - 1))) rfl (ib_in g3) dX3_breakInto_58 ?_
    refine zb_gets1 E zw_446 dX3_breakInto_59 ?_
    refine zb_iload_n E dX3_breakInto_62 3 rfl rfl ?_
    refine zb_iconst E dX3_breakInto_63 (v := 1) rfl ?_
    refine zb_isub E dX3_breakInto_64 ?_
    obtain ⟨g4, h⟩ := gd_s h
    refine zb_tald1 E (ib_in g4) dX3_breakInto_65 ?_
    refine zb_iadd E dX3_breakInto_66 ?_
    refine zb_iast E 3 (by decide) zF_3 (f := (upd v_trial (ix x3) ((v_trial (ix x3)) - 1))) rfl (ib_in g3) dX3_breakInto_67 (I2 := (va_up I 3 (upd (upd v_trial (ix x3) ((v_trial (ix x3)) - 1)) (ix (x3 - 1)) (((upd v_trial (ix x3) ((v_trial (ix x3)) - 1)) (ix (x3 - 1))) + (zc1.getD (ix (x3 - 1)) 0))))) zn1 ?_
    refine zb_iinc E dX3_breakInto_68 3 rfl (v := (x3 + (-1))) rfl (by decide) (lv2 := [(3, .int (x3 + (-1))), (0, .ref (C.X.1 + 1)), (1, .int a1), (2, .int x2)]) rfl ?_
    refine zb_goto E dX3_breakInto_71 (tgt := 35) rfl ?_
    refine zb_sub [1, 2, 3, 0] rfl ?_
    exact ih (x3 + (-1)) (upd (upd v_trial (ix x3) ((v_trial (ix x3)) - 1)) (ix (x3 - 1)) (((upd v_trial (ix x3) ((v_trial (ix x3)) - 1)) (ix (x3 - 1))) + (zc1.getD (ix (x3 - 1)) 0))) h
theorem c_X3_breakInto_b25 {C : zC} {I : Nat → Nat → Int32} {J : Nat → Nat → Int64} {Rr : Nat → Nat → Option Nat} {D : zD} (N : Nat) (a1 : Int32) (rr : Int32) (y_v_trial : (Nat → Int32)) (E : zE C RX3 cX3_breakInto 4 (some .int) ({ frames := 0, cells := 0, slots := 0, locals := 0 } : Room)) (hQ : C.Q = zQi C ({ frames := 0, cells := 0, slots := 0, locals := 0 } : Room) rr ((va_up I 3 y_v_trial), J, Rr, D)) (x2 : Int32) (v_trial : (Nat → Int32)) (h : pCounters_breakInto_b25 N a1 x2 v_trial = some (rr, y_v_trial)) : zB C (0, 0) 25 [(0, .ref (C.X.1 + 1)), (1, .int a1), (2, .int x2)] [] ((va_up I 3 v_trial), J, Rr, D) := by
  refine zb_iload_n E dX3_breakInto_25 2 rfl rfl ?_
  refine zb_bipush E dX3_breakInto_26 (v := 13) rfl ?_
  refine zb_icmp_lt E dX3_breakInto_28 (tgt := 33) rfl (fun hc => ?_) (fun hc => ?_)
  · have h := if_t h hc
    refine zb_iload_n E dX3_breakInto_33 2 rfl rfl ?_
    refine zb_istore_n E dX3_breakInto_34 rfl (by decide) (lv2 := [(3, .int x2), (0, .ref (C.X.1 + 1)), (1, .int a1), (2, .int x2)]) rfl ?_
    refine zb_sub [1, 2, 3, 0] rfl ?_
    exact c_X3_breakInto_b35 N a1 rr y_v_trial E hQ x2 _ x2 v_trial h
  · have h := if_f h hc
    refine zb_iconst E dX3_breakInto_31 (v := 0) rfl ?_
    obtain ⟨rfl, rfl⟩ := zinj2 h
    exact zb_iret E hQ rfl ⟨Nat.zero_le _, Nat.zero_le _⟩ dX3_breakInto_32
theorem c_X3_breakInto_0 {C : zC} {I : Nat → Nat → Int32} {J : Nat → Nat → Int64} {Rr : Nat → Nat → Option Nat} {D : zD} (N : Nat) (a1 : Int32) (rr : Int32) (y_v_trial : (Nat → Int32)) (E : zE C RX3 cX3_breakInto 4 (some .int) ({ frames := 0, cells := 0, slots := 0, locals := 0 } : Room)) (hQ : C.Q = zQi C ({ frames := 0, cells := 0, slots := 0, locals := 0 } : Room) rr ((va_up I 3 y_v_trial), J, Rr, D)) (v_trial : (Nat → Int32)) (h : pCounters_breakInto N a1 v_trial = some (rr, y_v_trial)) : zB C (0, 0) 0 [(0, .ref (C.X.1 + 1)), (1, .int a1)] [] ((va_up I 3 v_trial), J, Rr, D) := by
  refine zb_iload_n E dX3_breakInto_0 1 rfl rfl ?_
  refine zb_iconst E dX3_breakInto_1 (v := 1) rfl ?_
  refine zb_iadd E dX3_breakInto_2 ?_
  refine zb_istore_n E dX3_breakInto_3 rfl (by decide) (lv2 := [(2, .int (a1 + 1)), (0, .ref (C.X.1 + 1)), (1, .int a1)]) rfl ?_
  refine zb_sub [1, 2, 0] rfl ?_
  exact c_X3_breakInto_b4 N a1 rr y_v_trial E hQ v_trial _ (fun x2_z1 h => c_X3_breakInto_b25 N a1 rr y_v_trial E hQ x2_z1 v_trial h) _ (a1 + 1) h
theorem c_X3_breakInto {l : Launch} {X : zX} {I : Nat → Nat → Int32} {J : Nat → Nat → Int64} {Rr : Nat → Nat → Option Nat} {D : zD} {N : Nat} {a1 : Int32} (v_trial : (Nat → Int32)) (e_v_trial : I 3 = v_trial) {rr : Int32} {y_v_trial : (Nat → Int32)} (h : pCounters_breakInto N a1 v_trial = some (rr, y_v_trial)) : zMi l yX3_breakInto cX3_breakInto 4 (some .int) ({ frames := 0, cells := 0, slots := 0, locals := 0 } : Room) X [.ref (X.1 + 1), .int a1] (I, J, Rr, D) rr ((va_up I 3 y_v_trial), J, Rr, D) := by
  refine zMi.of (by decide) (Nat.le_of_ble_eq_true rfl) (fun C E hl hX hQ => ?_)
  subst hl
  subst hX
  have eI0 : (va_up I 3 v_trial) = I := by rw [zup_idE e_v_trial]
  have eJ0 : J = J := rfl
  refine zb_S (S2 := ((va_up I 3 v_trial), J, Rr, D)) (zS_eq eI0.symm eJ0.symm) ?_
  exact c_X3_breakInto_0 N a1 rr y_v_trial E hQ v_trial h
-- ChequeredCloth$Counters.take
theorem dX3_take_0 : decode cX3_take 0 = .ok (.aload_n 0, 1) := by decide +kernel
theorem dX3_take_1 : decode cX3_take 1 = .ok (.iload_n 1, 1) := by decide +kernel
theorem dX3_take_2 : decode cX3_take 2 = .ok (.invokevirtual 28, 3) := by decide +kernel
theorem dX3_take_5 : decode cX3_take 5 = .ok (.ifCond .ne 5, 3) := by decide +kernel
theorem dX3_take_8 : decode cX3_take 8 = .ok (.iconst (-1), 1) := by decide +kernel
theorem dX3_take_9 : decode cX3_take 9 = .ok (.ireturn, 1) := by decide +kernel
theorem dX3_take_10 : decode cX3_take 10 = .ok (.aload_n 0, 1) := by decide +kernel
theorem dX3_take_11 : decode cX3_take 11 = .ok (.getfield 11, 3) := by decide +kernel
theorem dX3_take_14 : decode cX3_take 14 = .ok (.iconst 0, 1) := by decide +kernel
theorem dX3_take_15 : decode cX3_take 15 = .ok (.aload_n 0, 1) := by decide +kernel
theorem dX3_take_16 : decode cX3_take 16 = .ok (.getfield 15, 3) := by decide +kernel
theorem dX3_take_19 : decode cX3_take 19 = .ok (.iconst 0, 1) := by decide +kernel
theorem dX3_take_20 : decode cX3_take 20 = .ok (.bipush 13, 2) := by decide +kernel
theorem dX3_take_22 : decode cX3_take 22 = .ok (.invokestatic 35, 3) := by decide +kernel
theorem dX3_take_25 : decode cX3_take 25 = .ok (.iconst 0, 1) := by decide +kernel
theorem dX3_take_26 : decode cX3_take 26 = .ok (.istore_n 2, 1) := by decide +kernel
theorem dX3_take_27 : decode cX3_take 27 = .ok (.iconst 0, 1) := by decide +kernel
theorem dX3_take_28 : decode cX3_take 28 = .ok (.istore_n 3, 1) := by decide +kernel
theorem dX3_take_29 : decode cX3_take 29 = .ok (.iload_n 3, 1) := by decide +kernel
theorem dX3_take_30 : decode cX3_take 30 = .ok (.bipush 13, 2) := by decide +kernel
theorem dX3_take_32 : decode cX3_take 32 = .ok (.if_icmp .ge 80, 3) := by decide +kernel
theorem dX3_take_35 : decode cX3_take 35 = .ok (.iconst 0, 1) := by decide +kernel
theorem dX3_take_36 : decode cX3_take 36 = .ok (.istore 4, 2) := by decide +kernel
theorem dX3_take_38 : decode cX3_take 38 = .ok (.iload 4, 2) := by decide +kernel
theorem dX3_take_40 : decode cX3_take 40 = .ok (.bipush 99, 2) := by decide +kernel
theorem dX3_take_42 : decode cX3_take 42 = .ok (.if_icmp .ge 32, 3) := by decide +kernel
theorem dX3_take_45 : decode cX3_take 45 = .ok (.aload_n 0, 1) := by decide +kernel
theorem dX3_take_46 : decode cX3_take 46 = .ok (.getfield 15, 3) := by decide +kernel
theorem dX3_take_49 : decode cX3_take 49 = .ok (.iload_n 3, 1) := by decide +kernel
theorem dX3_take_50 : decode cX3_take 50 = .ok (.iaload, 1) := by decide +kernel
theorem dX3_take_51 : decode cX3_take 51 = .ok (.aload_n 0, 1) := by decide +kernel
theorem dX3_take_52 : decode cX3_take 52 = .ok (.getfield 18, 3) := by decide +kernel
theorem dX3_take_55 : decode cX3_take 55 = .ok (.iload_n 3, 1) := by decide +kernel
theorem dX3_take_56 : decode cX3_take 56 = .ok (.iaload, 1) := by decide +kernel
theorem dX3_take_57 : decode cX3_take 57 = .ok (.if_icmp .ge 17, 3) := by decide +kernel
theorem dX3_take_60 : decode cX3_take 60 = .ok (.iload_n 2, 1) := by decide +kernel
theorem dX3_take_61 : decode cX3_take 61 = .ok (.aload_n 0, 1) := by decide +kernel
theorem dX3_take_62 : decode cX3_take 62 = .ok (.iload_n 3, 1) := by decide +kernel
theorem dX3_take_63 : decode cX3_take 63 = .ok (.invokevirtual 41, 3) := by decide +kernel
theorem dX3_take_66 : decode cX3_take 66 = .ok (.iadd, 1) := by decide +kernel
theorem dX3_take_67 : decode cX3_take 67 = .ok (.istore_n 2, 1) := by decide +kernel
theorem dX3_take_68 : decode cX3_take 68 = .ok (.iinc 4 1, 3) := by decide +kernel
theorem dX3_take_71 : decode cX3_take 71 = .ok (.goto (-33), 3) := by decide +kernel
theorem dX3_take_74 : decode cX3_take 74 = .ok (.aload_n 0, 1) := by decide +kernel
theorem dX3_take_75 : decode cX3_take 75 = .ok (.getfield 15, 3) := by decide +kernel
theorem dX3_take_78 : decode cX3_take 78 = .ok (.iload_n 3, 1) := by decide +kernel
theorem dX3_take_79 : decode cX3_take 79 = .ok (.iaload, 1) := by decide +kernel
theorem dX3_take_80 : decode cX3_take 80 = .ok (.aload_n 0, 1) := by decide +kernel
theorem dX3_take_81 : decode cX3_take 81 = .ok (.getfield 18, 3) := by decide +kernel
theorem dX3_take_84 : decode cX3_take 84 = .ok (.iload_n 3, 1) := by decide +kernel
theorem dX3_take_85 : decode cX3_take 85 = .ok (.iaload, 1) := by decide +kernel
theorem dX3_take_86 : decode cX3_take 86 = .ok (.if_icmp .ge 5, 3) := by decide +kernel
theorem dX3_take_89 : decode cX3_take 89 = .ok (.iconst (-1), 1) := by decide +kernel
theorem dX3_take_90 : decode cX3_take 90 = .ok (.ireturn, 1) := by decide +kernel
theorem dX3_take_91 : decode cX3_take 91 = .ok (.aload_n 0, 1) := by decide +kernel
theorem dX3_take_92 : decode cX3_take 92 = .ok (.getfield 15, 3) := by decide +kernel
theorem dX3_take_95 : decode cX3_take 95 = .ok (.iload_n 3, 1) := by decide +kernel
theorem dX3_take_96 : decode cX3_take 96 = .ok (.dup2, 1) := by decide +kernel
theorem dX3_take_97 : decode cX3_take 97 = .ok (.iaload, 1) := by decide +kernel
theorem dX3_take_98 : decode cX3_take 98 = .ok (.aload_n 0, 1) := by decide +kernel
theorem dX3_take_99 : decode cX3_take 99 = .ok (.getfield 18, 3) := by decide +kernel
theorem dX3_take_102 : decode cX3_take 102 = .ok (.iload_n 3, 1) := by decide +kernel
theorem dX3_take_103 : decode cX3_take 103 = .ok (.iaload, 1) := by decide +kernel
theorem dX3_take_104 : decode cX3_take 104 = .ok (.isub, 1) := by decide +kernel
theorem dX3_take_105 : decode cX3_take 105 = .ok (.iastore, 1) := by decide +kernel
theorem dX3_take_106 : decode cX3_take 106 = .ok (.iinc 3 1, 3) := by decide +kernel
theorem dX3_take_109 : decode cX3_take 109 = .ok (.goto (-80), 3) := by decide +kernel
theorem dX3_take_112 : decode cX3_take 112 = .ok (.aload_n 0, 1) := by decide +kernel
theorem dX3_take_113 : decode cX3_take 113 = .ok (.getfield 15, 3) := by decide +kernel
theorem dX3_take_116 : decode cX3_take 116 = .ok (.iconst 0, 1) := by decide +kernel
theorem dX3_take_117 : decode cX3_take 117 = .ok (.aload_n 0, 1) := by decide +kernel
theorem dX3_take_118 : decode cX3_take 118 = .ok (.getfield 11, 3) := by decide +kernel
theorem dX3_take_121 : decode cX3_take 121 = .ok (.iconst 0, 1) := by decide +kernel
theorem dX3_take_122 : decode cX3_take 122 = .ok (.bipush 13, 2) := by decide +kernel
theorem dX3_take_124 : decode cX3_take 124 = .ok (.invokestatic 35, 3) := by decide +kernel
theorem dX3_take_127 : decode cX3_take 127 = .ok (.iload_n 2, 1) := by decide +kernel
theorem dX3_take_128 : decode cX3_take 128 = .ok (.ireturn, 1) := by decide +kernel
theorem zy_X3_take : zYv yX3_take cX3_take 5 (some .int) 1 := ⟨zw_456, zw_457, zw_2, zw_458, by decide, by decide, by decide⟩
theorem c_X3_take_b38 {C : zC} {I : Nat → Nat → Int32} {J : Nat → Nat → Int64} {Rr : Nat → Nat → Option Nat} {D : zD} (N : Nat) (a1 : Int32) (rr : Int32) (y_v_due : (Nat → Int32)) (y_v_lying : (Nat → Int32)) (y_v_trial : (Nat → Int32)) (E : zE C RX3 cX3_take 5 (some .int) ({ frames := 1, cells := 0, slots := 0, locals := 72 } : Room)) (hQ : C.Q = zQi C ({ frames := 1, cells := 0, slots := 0, locals := 72 } : Room) rr ((va_up (va_up (va_up I 2 y_v_lying) 3 y_v_trial) 4 y_v_due), J, Rr, D)) (x3 : Int32) (v_due : (Nat → Int32)) (v_lying : (Nat → Int32)) (k74 : Int32 → (Nat → Int32) → Option R_pCounters_take) (hk74 : ∀ (x2 : Int32) (v_trial : (Nat → Int32)), k74 x2 v_trial = some (rr, y_v_due, y_v_lying, y_v_trial) → zB C (0, 0) 74 [(0, .ref (C.X.1 + 1)), (2, .int x2), (3, .int x3)] [] ((va_up (va_up (va_up I 2 v_lying) 3 v_trial) 4 v_due), J, Rr, D)) : ∀ (n9 : Nat) (x2 : Int32) (x4 : Int32) (v_trial : (Nat → Int32)), pCounters_take_b38 N a1 x3 v_due v_lying k74 n9 x2 x4 v_trial = some (rr, y_v_due, y_v_lying, y_v_trial) → zB C (0, 0) 38 [(0, .ref (C.X.1 + 1)), (2, .int x2), (3, .int x3), (4, .int x4)] [] ((va_up (va_up (va_up I 2 v_lying) 3 v_trial) 4 v_due), J, Rr, D) := by
  refine zlp3_ind (P := fun (x2 : Int32) (x4 : Int32) (v_trial : (Nat → Int32)) => zB C (0, 0) 38 [(0, .ref (C.X.1 + 1)), (2, .int x2), (3, .int x3), (4, .int x4)] [] ((va_up (va_up (va_up I 2 v_lying) 3 v_trial) 4 v_due), J, Rr, D)) (fun self ih => ?_)
  intro x2 x4 v_trial h
  refine zb_iload E dX3_take_38 3 rfl ?_
  refine zb_bipush E dX3_take_40 (v := 99) rfl ?_
  refine zb_icmp_ge E dX3_take_42 (tgt := 74) rfl (fun hc => ?_) (fun hc => ?_)
  · have h := if_t h hc
    refine zb_sub [0, 1, 2] rfl ?_
    exact hk74 x2 v_trial h
  · have h := if_f h hc
    refine zb_aload_n E dX3_take_45 0 rfl rfl ?_
    refine zb_get E 1 (by decide) (zF_1 C.X) rfl zin3 1 (by decide) zw_36 (v := .ref (C.X.1 + 3)) rfl dX3_take_46 ?_
    refine zb_iload_n E dX3_take_49 2 rfl rfl ?_
    obtain ⟨g2, h⟩ := gd_s h
    refine zb_iald E 3 (by decide) zF_3 (f := v_trial) rfl (ib_in g2) dX3_take_50 ?_
    refine zb_aload_n E dX3_take_51 0 rfl rfl ?_
    refine zb_get E 1 (by decide) (zF_1 C.X) rfl zin3 2 (by decide) zw_37 (v := .ref (C.X.1 + 4)) rfl dX3_take_52 ?_
    refine zb_iload_n E dX3_take_55 2 rfl rfl ?_
    refine zb_iald E 4 (by decide) zF_4 (f := v_due) rfl (ib_in g2) dX3_take_56 ?_
    refine zb_icmp_ge E dX3_take_57 (tgt := 74) rfl (fun hc => ?_) (fun hc => ?_)
    · have h := if_t h hc
      refine zb_sub [0, 1, 2] rfl ?_
      exact hk74 x2 v_trial h
    · have h := if_f h hc
      refine zb_iload_n E dX3_take_60 1 rfl rfl ?_
      refine zb_aload_n E dX3_take_61 0 rfl rfl ?_
      refine zb_iload_n E dX3_take_62 2 rfl rfl ?_
      obtain ⟨rc3, v_trial_c3, hc_63, h⟩ := bd2_s h
      refine zb_cVi E [.int x3] 1 zy_X3_breakInto zw_459 (by decide) (zF_1 _ _ _ _) rfl (c_X3_breakInto v_trial rfl hc_63) (by decide) rfl rfl (by first | decide | simp [Value.category]) dX3_take_63 (cs2 := (0, 0)) rfl ?_
      refine zb_S (S2 := ((va_up (va_up (va_up I 2 v_lying) 3 v_trial_c3) 4 v_due), J, Rr, D)) (zS_eq (zn2 (by decide : (4 : Nat) ≠ 3)) rfl) ?_
      refine zb_iadd E dX3_take_66 ?_
      refine zb_istore_n E dX3_take_67 rfl (by decide) (lv2 := [(2, .int (x2 + rc3)), (0, .ref (C.X.1 + 1)), (3, .int x3), (4, .int x4)]) rfl ?_
      refine zb_iinc E dX3_take_68 3 rfl (v := (x4 + 1)) rfl (by decide) (lv2 := [(4, .int (x4 + 1)), (2, .int (x2 + rc3)), (0, .ref (C.X.1 + 1)), (3, .int x3)]) rfl ?_
      refine zb_goto E dX3_take_71 (tgt := 38) rfl ?_
      refine zb_sub [2, 1, 3, 0] rfl ?_
      exact ih (x2 + rc3) (x4 + 1) v_trial_c3 h
theorem c_X3_take_b74 {C : zC} {I : Nat → Nat → Int32} {J : Nat → Nat → Int64} {Rr : Nat → Nat → Option Nat} {D : zD} (N : Nat) (a1 : Int32) (rr : Int32) (y_v_due : (Nat → Int32)) (y_v_lying : (Nat → Int32)) (y_v_trial : (Nat → Int32)) (E : zE C RX3 cX3_take 5 (some .int) ({ frames := 1, cells := 0, slots := 0, locals := 72 } : Room)) (hQ : C.Q = zQi C ({ frames := 1, cells := 0, slots := 0, locals := 72 } : Room) rr ((va_up (va_up (va_up I 2 y_v_lying) 3 y_v_trial) 4 y_v_due), J, Rr, D)) (x2 : Int32) (x3 : Int32) (v_due : (Nat → Int32)) (v_lying : (Nat → Int32)) (v_trial : (Nat → Int32)) (self : Int32 → Int32 → (Nat → Int32) → Option R_pCounters_take) (ih : ∀ (x2 : Int32) (x3 : Int32) (v_trial : (Nat → Int32)), self x2 x3 v_trial = some (rr, y_v_due, y_v_lying, y_v_trial) → zB C (0, 0) 29 [(0, .ref (C.X.1 + 1)), (2, .int x2), (3, .int x3)] [] ((va_up (va_up (va_up I 2 v_lying) 3 v_trial) 4 v_due), J, Rr, D)) (k112 : Int32 → (Nat → Int32) → Option R_pCounters_take) (hk112 : ∀ (x2 : Int32) (v_trial : (Nat → Int32)), k112 x2 v_trial = some (rr, y_v_due, y_v_lying, y_v_trial) → zB C (0, 0) 112 [(0, .ref (C.X.1 + 1)), (2, .int x2)] [] ((va_up (va_up (va_up I 2 v_lying) 3 v_trial) 4 v_due), J, Rr, D)) (h : pCounters_take_b74 N a1 self k112 x2 x3 v_due v_lying v_trial = some (rr, y_v_due, y_v_lying, y_v_trial)) : zB C (0, 0) 74 [(0, .ref (C.X.1 + 1)), (2, .int x2), (3, .int x3)] [] ((va_up (va_up (va_up I 2 v_lying) 3 v_trial) 4 v_due), J, Rr, D) := by
  refine zb_aload_n E dX3_take_74 0 rfl rfl ?_
  refine zb_get E 1 (by decide) (zF_1 C.X) rfl zin3 1 (by decide) zw_36 (v := .ref (C.X.1 + 3)) rfl dX3_take_75 ?_
  refine zb_iload_n E dX3_take_78 2 rfl rfl ?_
  obtain ⟨g4, h⟩ := gd_s h
  refine zb_iald E 3 (by decide) zF_3 (f := v_trial) rfl (ib_in g4) dX3_take_79 ?_
  refine zb_aload_n E dX3_take_80 0 rfl rfl ?_
  refine zb_get E 1 (by decide) (zF_1 C.X) rfl zin3 2 (by decide) zw_37 (v := .ref (C.X.1 + 4)) rfl dX3_take_81 ?_
  refine zb_iload_n E dX3_take_84 2 rfl rfl ?_
  refine zb_iald E 4 (by decide) zF_4 (f := v_due) rfl (ib_in g4) dX3_take_85 ?_
  refine zb_icmp_ge E dX3_take_86 (tgt := 91) rfl (fun hc => ?_) (fun hc => ?_)
  · have h := if_t h hc
    refine zb_aload_n E dX3_take_91 0 rfl rfl ?_
    refine zb_get E 1 (by decide) (zF_1 C.X) rfl zin3 1 (by decide) zw_36 (v := .ref (C.X.1 + 3)) rfl dX3_take_92 ?_
    refine zb_iload_n E dX3_take_95 2 rfl rfl ?_
    refine zb_dup2_11 E dX3_take_96 rfl rfl ?_
    refine zb_iald E 3 (by decide) zF_3 (f := v_trial) rfl (ib_in g4) dX3_take_97 ?_
    refine zb_aload_n E dX3_take_98 0 rfl rfl ?_
    refine zb_get E 1 (by decide) (zF_1 C.X) rfl zin3 2 (by decide) zw_37 (v := .ref (C.X.1 + 4)) rfl dX3_take_99 ?_
    refine zb_iload_n E dX3_take_102 2 rfl rfl ?_
    refine zb_iald E 4 (by decide) zF_4 (f := v_due) rfl (ib_in g4) dX3_take_103 ?_
    refine zb_isub E dX3_take_104 ?_
    refine zb_iast E 3 (by decide) zF_3 (f := v_trial) rfl (ib_in g4) dX3_take_105 (I2 := (va_up (va_up (va_up I 2 v_lying) 3 (upd v_trial (ix x3) ((v_trial (ix x3)) - (v_due (ix x3))))) 4 v_due)) (zn2 (by decide : (4 : Nat) ≠ 3)) ?_
    refine zb_iinc E dX3_take_106 2 rfl (v := (x3 + 1)) rfl (by decide) (lv2 := [(3, .int (x3 + 1)), (0, .ref (C.X.1 + 1)), (2, .int x2)]) rfl ?_
    refine zb_goto E dX3_take_109 (tgt := 29) rfl ?_
    refine zb_sub [1, 2, 0] rfl ?_
    exact ih x2 (x3 + 1) (upd v_trial (ix x3) ((v_trial (ix x3)) - (v_due (ix x3)))) h
  · have h := if_f h hc
    refine zb_iconst E dX3_take_89 (v := (-1)) rfl ?_
    obtain ⟨rfl, rfl, rfl, rfl⟩ := zinj4 h
    exact zb_iret E hQ rfl ⟨Nat.zero_le _, Nat.zero_le _⟩ dX3_take_90
theorem c_X3_take_b29 {C : zC} {I : Nat → Nat → Int32} {J : Nat → Nat → Int64} {Rr : Nat → Nat → Option Nat} {D : zD} (N : Nat) (a1 : Int32) (rr : Int32) (y_v_due : (Nat → Int32)) (y_v_lying : (Nat → Int32)) (y_v_trial : (Nat → Int32)) (E : zE C RX3 cX3_take 5 (some .int) ({ frames := 1, cells := 0, slots := 0, locals := 72 } : Room)) (hQ : C.Q = zQi C ({ frames := 1, cells := 0, slots := 0, locals := 72 } : Room) rr ((va_up (va_up (va_up I 2 y_v_lying) 3 y_v_trial) 4 y_v_due), J, Rr, D)) (v_due : (Nat → Int32)) (v_lying : (Nat → Int32)) (k112 : Int32 → (Nat → Int32) → Option R_pCounters_take) (hk112 : ∀ (x2 : Int32) (v_trial : (Nat → Int32)), k112 x2 v_trial = some (rr, y_v_due, y_v_lying, y_v_trial) → zB C (0, 0) 112 [(0, .ref (C.X.1 + 1)), (2, .int x2)] [] ((va_up (va_up (va_up I 2 v_lying) 3 v_trial) 4 v_due), J, Rr, D)) : ∀ (n9 : Nat) (x2 : Int32) (x3 : Int32) (v_trial : (Nat → Int32)), pCounters_take_b29 N a1 v_due v_lying k112 n9 x2 x3 v_trial = some (rr, y_v_due, y_v_lying, y_v_trial) → zB C (0, 0) 29 [(0, .ref (C.X.1 + 1)), (2, .int x2), (3, .int x3)] [] ((va_up (va_up (va_up I 2 v_lying) 3 v_trial) 4 v_due), J, Rr, D) := by
  refine zlp3_ind (P := fun (x2 : Int32) (x3 : Int32) (v_trial : (Nat → Int32)) => zB C (0, 0) 29 [(0, .ref (C.X.1 + 1)), (2, .int x2), (3, .int x3)] [] ((va_up (va_up (va_up I 2 v_lying) 3 v_trial) 4 v_due), J, Rr, D)) (fun self ih => ?_)
  intro x2 x3 v_trial h
  refine zb_iload_n E dX3_take_29 2 rfl rfl ?_
  refine zb_bipush E dX3_take_30 (v := 13) rfl ?_
  refine zb_icmp_ge E dX3_take_32 (tgt := 112) rfl (fun hc => ?_) (fun hc => ?_)
  · have h := if_t h hc
    refine zb_sub [0, 1] rfl ?_
    exact hk112 x2 v_trial h
  · have h := if_f h hc
    refine zb_iconst E dX3_take_35 (v := 0) rfl ?_
    refine zb_istore E dX3_take_36 (by decide) (lv2 := [(4, .int 0), (0, .ref (C.X.1 + 1)), (2, .int x2), (3, .int x3)]) rfl ?_
    refine zb_sub [1, 2, 3, 0] rfl ?_
    exact c_X3_take_b38 N a1 rr y_v_due y_v_lying y_v_trial E hQ x3 v_due v_lying _ (fun x2_z1 v_trial_z2 h => c_X3_take_b74 N a1 rr y_v_due y_v_lying y_v_trial E hQ x2_z1 x3 v_due v_lying v_trial_z2 self ih k112 hk112 h) _ x2 0 v_trial h
theorem c_X3_take_b112 {C : zC} {I : Nat → Nat → Int32} {J : Nat → Nat → Int64} {Rr : Nat → Nat → Option Nat} {D : zD} (N : Nat) (a1 : Int32) (rr : Int32) (y_v_due : (Nat → Int32)) (y_v_lying : (Nat → Int32)) (y_v_trial : (Nat → Int32)) (E : zE C RX3 cX3_take 5 (some .int) ({ frames := 1, cells := 0, slots := 0, locals := 72 } : Room)) (hQ : C.Q = zQi C ({ frames := 1, cells := 0, slots := 0, locals := 72 } : Room) rr ((va_up (va_up (va_up I 2 y_v_lying) 3 y_v_trial) 4 y_v_due), J, Rr, D)) (x2 : Int32) (v_due : (Nat → Int32)) (v_lying : (Nat → Int32)) (v_trial : (Nat → Int32)) (h : pCounters_take_b112 N a1 x2 v_due v_lying v_trial = some (rr, y_v_due, y_v_lying, y_v_trial)) : zB C (0, 0) 112 [(0, .ref (C.X.1 + 1)), (2, .int x2)] [] ((va_up (va_up (va_up I 2 v_lying) 3 v_trial) 4 v_due), J, Rr, D) := by
  refine zb_aload_n E dX3_take_112 0 rfl rfl ?_
  refine zb_get E 1 (by decide) (zF_1 C.X) rfl zin3 1 (by decide) zw_36 (v := .ref (C.X.1 + 3)) rfl dX3_take_113 ?_
  refine zb_iconst E dX3_take_116 (v := 0) rfl ?_
  refine zb_aload_n E dX3_take_117 0 rfl rfl ?_
  refine zb_get E 1 (by decide) (zF_1 C.X) rfl zin3 0 (by decide) zw_35 (v := .ref (C.X.1 + 2)) rfl dX3_take_118 ?_
  refine zb_iconst E dX3_take_121 (v := 0) rfl ?_
  refine zb_bipush E dX3_take_122 (v := 13) rfl ?_
  refine zb_copyI E 3 2 (by decide) (by decide) zF_3 zF_2 (f := v_trial) rfl (g := v_lying) rfl (by decide) zw_448 (by decide) (by first | decide | simp [Value.category]) dX3_take_124 (I2 := (va_up (va_up (va_up I 2 (va_cpy v_trial v_lying (ix 0) (ix 0) (ix 13))) 3 v_trial) 4 v_due)) (zn3 (by decide : (4 : Nat) ≠ 2) (by decide : (3 : Nat) ≠ 2)) ?_
  refine zb_iload_n E dX3_take_127 1 rfl rfl ?_
  obtain ⟨rfl, rfl, rfl, rfl⟩ := zinj4 h
  exact zb_iret E hQ rfl ⟨Nat.zero_le _, Nat.zero_le _⟩ dX3_take_128
theorem c_X3_take_0 {C : zC} {I : Nat → Nat → Int32} {J : Nat → Nat → Int64} {Rr : Nat → Nat → Option Nat} {D : zD} (N : Nat) (a1 : Int32) (rr : Int32) (y_v_due : (Nat → Int32)) (y_v_lying : (Nat → Int32)) (y_v_trial : (Nat → Int32)) (E : zE C RX3 cX3_take 5 (some .int) ({ frames := 1, cells := 0, slots := 0, locals := 72 } : Room)) (hQ : C.Q = zQi C ({ frames := 1, cells := 0, slots := 0, locals := 72 } : Room) rr ((va_up (va_up (va_up I 2 y_v_lying) 3 y_v_trial) 4 y_v_due), J, Rr, D)) (v_due : (Nat → Int32)) (v_lying : (Nat → Int32)) (v_trial : (Nat → Int32)) (h : pCounters_take N a1 v_due v_lying v_trial = some (rr, y_v_due, y_v_lying, y_v_trial)) : zB C (0, 0) 0 [(0, .ref (C.X.1 + 1)), (1, .int a1)] [] ((va_up (va_up (va_up I 2 v_lying) 3 v_trial) 4 v_due), J, Rr, D) := by
  refine zb_aload_n E dX3_take_0 0 rfl rfl ?_
  refine zb_iload_n E dX3_take_1 1 rfl rfl ?_
  obtain ⟨rc1, v_due_c1, hc_2, h⟩ := bd2_s h
  refine zb_cVi E [.int a1] 1 zy_X3_tellPlain zw_429 (by decide) (zF_1 _ _ _ _) rfl (c_X3_tellPlain v_due rfl hc_2) (by decide) rfl rfl (by first | decide | simp [Value.category]) dX3_take_2 (cs2 := (0, 0)) rfl ?_
  refine zb_S (S2 := ((va_up (va_up (va_up I 2 v_lying) 3 v_trial) 4 v_due_c1), J, Rr, D)) (zS_eq zn1 rfl) ?_
  refine zb_if_ne E dX3_take_5 (tgt := 10) rfl (fun hc => ?_) (fun hc => ?_)
  · have h := if_f h hc
    refine zb_aload_n E dX3_take_10 0 rfl rfl ?_
    refine zb_get E 1 (by decide) (zF_1 C.X) rfl zin3 0 (by decide) zw_35 (v := .ref (C.X.1 + 2)) rfl dX3_take_11 ?_
    refine zb_iconst E dX3_take_14 (v := 0) rfl ?_
    refine zb_aload_n E dX3_take_15 0 rfl rfl ?_
    refine zb_get E 1 (by decide) (zF_1 C.X) rfl zin3 1 (by decide) zw_36 (v := .ref (C.X.1 + 3)) rfl dX3_take_16 ?_
    refine zb_iconst E dX3_take_19 (v := 0) rfl ?_
    refine zb_bipush E dX3_take_20 (v := 13) rfl ?_
    refine zb_copyI E 2 3 (by decide) (by decide) zF_2 zF_3 (f := v_lying) rfl (g := v_trial) rfl (by decide) zw_448 (by decide) (by first | decide | simp [Value.category]) dX3_take_22 (I2 := (va_up (va_up (va_up I 2 v_lying) 3 (va_cpy v_lying v_trial (ix 0) (ix 0) (ix 13))) 4 v_due_c1)) (zn2 (by decide : (4 : Nat) ≠ 3)) ?_
    refine zb_iconst E dX3_take_25 (v := 0) rfl ?_
    refine zb_istore_n E dX3_take_26 rfl (by decide) (lv2 := [(2, .int 0), (0, .ref (C.X.1 + 1)), (1, .int a1)]) rfl ?_
    refine zb_iconst E dX3_take_27 (v := 0) rfl ?_
    refine zb_istore_n E dX3_take_28 rfl (by decide) (lv2 := [(3, .int 0), (2, .int 0), (0, .ref (C.X.1 + 1)), (1, .int a1)]) rfl ?_
    refine zb_sub [2, 1, 0] rfl ?_
    exact c_X3_take_b29 N a1 rr y_v_due y_v_lying y_v_trial E hQ v_due_c1 v_lying _ (fun x2_z3 v_trial_z4 h => c_X3_take_b112 N a1 rr y_v_due y_v_lying y_v_trial E hQ x2_z3 v_due_c1 v_lying v_trial_z4 h) _ 0 0 (va_cpy v_lying v_trial (ix 0) (ix 0) (ix 13)) h
  · have h := if_t h hc
    refine zb_iconst E dX3_take_8 (v := (-1)) rfl ?_
    obtain ⟨rfl, rfl, rfl, rfl⟩ := zinj4 h
    exact zb_iret E hQ rfl ⟨Nat.zero_le _, Nat.zero_le _⟩ dX3_take_9
theorem c_X3_take {l : Launch} {X : zX} {I : Nat → Nat → Int32} {J : Nat → Nat → Int64} {Rr : Nat → Nat → Option Nat} {D : zD} {N : Nat} {a1 : Int32} (v_due : (Nat → Int32)) (e_v_due : I 4 = v_due) (v_lying : (Nat → Int32)) (e_v_lying : I 2 = v_lying) (v_trial : (Nat → Int32)) (e_v_trial : I 3 = v_trial) {rr : Int32} {y_v_due : (Nat → Int32)} {y_v_lying : (Nat → Int32)} {y_v_trial : (Nat → Int32)} (h : pCounters_take N a1 v_due v_lying v_trial = some (rr, y_v_due, y_v_lying, y_v_trial)) : zMi l yX3_take cX3_take 5 (some .int) ({ frames := 1, cells := 0, slots := 0, locals := 72 } : Room) X [.ref (X.1 + 1), .int a1] (I, J, Rr, D) rr ((va_up (va_up (va_up I 2 y_v_lying) 3 y_v_trial) 4 y_v_due), J, Rr, D) := by
  refine zMi.of (by decide) (Nat.le_of_ble_eq_true rfl) (fun C E hl hX hQ => ?_)
  subst hl
  subst hX
  have eI0 : (va_up (va_up (va_up I 2 v_lying) 3 v_trial) 4 v_due) = I := by rw [zup_idE e_v_lying, zup_idE e_v_trial, zup_idE e_v_due]
  have eJ0 : J = J := rfl
  refine zb_S (S2 := ((va_up (va_up (va_up I 2 v_lying) 3 v_trial) 4 v_due), J, Rr, D)) (zS_eq eI0.symm eJ0.symm) ?_
  exact c_X3_take_0 N a1 rr y_v_due y_v_lying y_v_trial E hQ v_due v_lying v_trial h
-- ChequeredCloth$Counters.cheaper
theorem dX3_cheaper_0 : decode cX3_cheaper 0 = .ok (.iload_n 0, 1) := by decide +kernel
theorem dX3_cheaper_1 : decode cX3_cheaper 1 = .ok (.iload_n 1, 1) := by decide +kernel
theorem dX3_cheaper_2 : decode cX3_cheaper 2 = .ok (.invokestatic 59, 3) := by decide +kernel
theorem dX3_cheaper_5 : decode cX3_cheaper 5 = .ok (.iadd, 1) := by decide +kernel
theorem dX3_cheaper_6 : decode cX3_cheaper 6 = .ok (.iload_n 2, 1) := by decide +kernel
theorem dX3_cheaper_7 : decode cX3_cheaper 7 = .ok (.iload_n 3, 1) := by decide +kernel
theorem dX3_cheaper_8 : decode cX3_cheaper 8 = .ok (.invokestatic 59, 3) := by decide +kernel
theorem dX3_cheaper_11 : decode cX3_cheaper 11 = .ok (.iadd, 1) := by decide +kernel
theorem dX3_cheaper_12 : decode cX3_cheaper 12 = .ok (.invokestatic 62, 3) := by decide +kernel
theorem dX3_cheaper_15 : decode cX3_cheaper 15 = .ok (.ireturn, 1) := by decide +kernel
theorem zy_X3_cheaper : zYs yX3_cheaper cX3_cheaper 4 (some .int) 4 := ⟨zw_475, zw_2, zw_476, by decide, by decide, by decide⟩
theorem c_X3_cheaper_0 {C : zC} {I : Nat → Nat → Int32} {J : Nat → Nat → Int64} {Rr : Nat → Nat → Option Nat} {D : zD} (a0 : Int32) (a1 : Int32) (a2 : Int32) (a3 : Int32) (rr : Int32) (E : zE C RX3 cX3_cheaper 4 (some .int) ({ frames := 1, cells := 0, slots := 0, locals := 31 } : Room)) (hQ : C.Q = zQi C ({ frames := 1, cells := 0, slots := 0, locals := 31 } : Room) rr (I, J, Rr, D)) (h : pCounters_cheaper a0 a1 a2 a3 = some rr) : zB C (0, 0) 0 [(0, .int a0), (1, .int a1), (2, .int a2), (3, .int a3)] [] (I, J, Rr, D) := by
  refine zb_iload_n E dX3_cheaper_0 0 rfl rfl ?_
  refine zb_iload_n E dX3_cheaper_1 1 rfl rfl ?_
  refine zb_mabs E zYm_mabs zw_477 (by decide) (by first | decide | simp [Value.category]) dX3_cheaper_2 ?_
  refine zb_iadd E dX3_cheaper_5 ?_
  refine zb_iload_n E dX3_cheaper_6 2 rfl rfl ?_
  refine zb_iload_n E dX3_cheaper_7 3 rfl rfl ?_
  refine zb_mabs E zYm_mabs zw_477 (by decide) (by first | decide | simp [Value.category]) dX3_cheaper_8 ?_
  refine zb_iadd E dX3_cheaper_11 ?_
  refine zb_mmin E zYm_mmin zw_480 (by decide) (by first | decide | simp [Value.category]) dX3_cheaper_12 ?_
  obtain rfl := zinj1 h
  exact zb_iret E hQ rfl ⟨Nat.zero_le _, Nat.zero_le _⟩ dX3_cheaper_15
theorem c_X3_cheaper {l : Launch} {X : zX} {I : Nat → Nat → Int32} {J : Nat → Nat → Int64} {Rr : Nat → Nat → Option Nat} {D : zD} {a0 : Int32} {a1 : Int32} {a2 : Int32} {a3 : Int32} {rr : Int32} (h : pCounters_cheaper a0 a1 a2 a3 = some rr) : zMi l yX3_cheaper cX3_cheaper 4 (some .int) ({ frames := 1, cells := 0, slots := 0, locals := 31 } : Room) X [.int a0, .int a1, .int a2, .int a3] (I, J, Rr, D) rr (I, J, Rr, D) := by
  refine zMi.of (by decide) (Nat.le_of_ble_eq_true rfl) (fun C E hl hX hQ => ?_)
  subst hl
  subst hX
  have eI0 : I = I := rfl
  have eJ0 : J = J := rfl
  refine zb_S (S2 := (I, J, Rr, D)) (zS_eq eI0.symm eJ0.symm) ?_
  exact c_X3_cheaper_0 a0 a1 a2 a3 rr E hQ h
-- ChequeredCloth$Counters.fewestSteps
theorem dX3_fewestSteps_0 : decode cX3_fewestSteps 0 = .ok (.aload_n 0, 1) := by decide +kernel
theorem dX3_fewestSteps_1 : decode cX3_fewestSteps 1 = .ok (.iload_n 1, 1) := by decide +kernel
theorem dX3_fewestSteps_2 : decode cX3_fewestSteps 2 = .ok (.invokevirtual 28, 3) := by decide +kernel
theorem dX3_fewestSteps_5 : decode cX3_fewestSteps 5 = .ok (.ifCond .ne 5, 3) := by decide +kernel
theorem dX3_fewestSteps_8 : decode cX3_fewestSteps 8 = .ok (.iconst (-1), 1) := by decide +kernel
theorem dX3_fewestSteps_9 : decode cX3_fewestSteps 9 = .ok (.ireturn, 1) := by decide +kernel
theorem dX3_fewestSteps_10 : decode cX3_fewestSteps 10 = .ok (.iconst 0, 1) := by decide +kernel
theorem dX3_fewestSteps_11 : decode cX3_fewestSteps 11 = .ok (.istore_n 2, 1) := by decide +kernel
theorem dX3_fewestSteps_12 : decode cX3_fewestSteps 12 = .ok (.iconst 0, 1) := by decide +kernel
theorem dX3_fewestSteps_13 : decode cX3_fewestSteps 13 = .ok (.istore_n 3, 1) := by decide +kernel
theorem dX3_fewestSteps_14 : decode cX3_fewestSteps 14 = .ok (.ldc 45, 2) := by decide +kernel
theorem dX3_fewestSteps_16 : decode cX3_fewestSteps 16 = .ok (.istore 4, 2) := by decide +kernel
theorem dX3_fewestSteps_18 : decode cX3_fewestSteps 18 = .ok (.iconst 0, 1) := by decide +kernel
theorem dX3_fewestSteps_19 : decode cX3_fewestSteps 19 = .ok (.istore 5, 2) := by decide +kernel
theorem dX3_fewestSteps_21 : decode cX3_fewestSteps 21 = .ok (.iload 5, 2) := by decide +kernel
theorem dX3_fewestSteps_23 : decode cX3_fewestSteps 23 = .ok (.bipush 12, 2) := by decide +kernel
theorem dX3_fewestSteps_25 : decode cX3_fewestSteps 25 = .ok (.if_icmp .ge 116, 3) := by decide +kernel
theorem dX3_fewestSteps_28 : decode cX3_fewestSteps 28 = .ok (.aload_n 0, 1) := by decide +kernel
theorem dX3_fewestSteps_29 : decode cX3_fewestSteps 29 = .ok (.getfield 18, 3) := by decide +kernel
theorem dX3_fewestSteps_32 : decode cX3_fewestSteps 32 = .ok (.iload 5, 2) := by decide +kernel
theorem dX3_fewestSteps_34 : decode cX3_fewestSteps 34 = .ok (.iaload, 1) := by decide +kernel
theorem dX3_fewestSteps_35 : decode cX3_fewestSteps 35 = .ok (.aload_n 0, 1) := by decide +kernel
theorem dX3_fewestSteps_36 : decode cX3_fewestSteps 36 = .ok (.getfield 11, 3) := by decide +kernel
theorem dX3_fewestSteps_39 : decode cX3_fewestSteps 39 = .ok (.iload 5, 2) := by decide +kernel
theorem dX3_fewestSteps_41 : decode cX3_fewestSteps 41 = .ok (.iaload, 1) := by decide +kernel
theorem dX3_fewestSteps_42 : decode cX3_fewestSteps 42 = .ok (.isub, 1) := by decide +kernel
theorem dX3_fewestSteps_43 : decode cX3_fewestSteps 43 = .ok (.istore 6, 2) := by decide +kernel
theorem dX3_fewestSteps_45 : decode cX3_fewestSteps 45 = .ok (.iload_n 2, 1) := by decide +kernel
theorem dX3_fewestSteps_46 : decode cX3_fewestSteps 46 = .ok (.iload 6, 2) := by decide +kernel
theorem dX3_fewestSteps_48 : decode cX3_fewestSteps 48 = .ok (.isub, 1) := by decide +kernel
theorem dX3_fewestSteps_49 : decode cX3_fewestSteps 49 = .ok (.getstatic 46, 3) := by decide +kernel
theorem dX3_fewestSteps_52 : decode cX3_fewestSteps 52 = .ok (.iload 5, 2) := by decide +kernel
theorem dX3_fewestSteps_54 : decode cX3_fewestSteps 54 = .ok (.iaload, 1) := by decide +kernel
theorem dX3_fewestSteps_55 : decode cX3_fewestSteps 55 = .ok (.invokestatic 49, 3) := by decide +kernel
theorem dX3_fewestSteps_58 : decode cX3_fewestSteps 58 = .ok (.istore 7, 2) := by decide +kernel
theorem dX3_fewestSteps_60 : decode cX3_fewestSteps 60 = .ok (.iload 6, 2) := by decide +kernel
theorem dX3_fewestSteps_62 : decode cX3_fewestSteps 62 = .ok (.getstatic 46, 3) := by decide +kernel
theorem dX3_fewestSteps_65 : decode cX3_fewestSteps 65 = .ok (.iload 5, 2) := by decide +kernel
theorem dX3_fewestSteps_67 : decode cX3_fewestSteps 67 = .ok (.iaload, 1) := by decide +kernel
theorem dX3_fewestSteps_68 : decode cX3_fewestSteps 68 = .ok (.iload 7, 2) := by decide +kernel
theorem dX3_fewestSteps_70 : decode cX3_fewestSteps 70 = .ok (.imul, 1) := by decide +kernel
theorem dX3_fewestSteps_71 : decode cX3_fewestSteps 71 = .ok (.iadd, 1) := by decide +kernel
theorem dX3_fewestSteps_72 : decode cX3_fewestSteps 72 = .ok (.iload_n 2, 1) := by decide +kernel
theorem dX3_fewestSteps_73 : decode cX3_fewestSteps 73 = .ok (.isub, 1) := by decide +kernel
theorem dX3_fewestSteps_74 : decode cX3_fewestSteps 74 = .ok (.istore 8, 2) := by decide +kernel
theorem dX3_fewestSteps_76 : decode cX3_fewestSteps 76 = .ok (.iload 8, 2) := by decide +kernel
theorem dX3_fewestSteps_78 : decode cX3_fewestSteps 78 = .ok (.getstatic 46, 3) := by decide +kernel
theorem dX3_fewestSteps_81 : decode cX3_fewestSteps 81 = .ok (.iload 5, 2) := by decide +kernel
theorem dX3_fewestSteps_83 : decode cX3_fewestSteps 83 = .ok (.iaload, 1) := by decide +kernel
theorem dX3_fewestSteps_84 : decode cX3_fewestSteps 84 = .ok (.iadd, 1) := by decide +kernel
theorem dX3_fewestSteps_85 : decode cX3_fewestSteps 85 = .ok (.istore 9, 2) := by decide +kernel
theorem dX3_fewestSteps_87 : decode cX3_fewestSteps 87 = .ok (.iload_n 3, 1) := by decide +kernel
theorem dX3_fewestSteps_88 : decode cX3_fewestSteps 88 = .ok (.iload 8, 2) := by decide +kernel
theorem dX3_fewestSteps_90 : decode cX3_fewestSteps 90 = .ok (.iload 4, 2) := by decide +kernel
theorem dX3_fewestSteps_92 : decode cX3_fewestSteps 92 = .ok (.iload 8, 2) := by decide +kernel
theorem dX3_fewestSteps_94 : decode cX3_fewestSteps 94 = .ok (.iconst 1, 1) := by decide +kernel
theorem dX3_fewestSteps_95 : decode cX3_fewestSteps 95 = .ok (.isub, 1) := by decide +kernel
theorem dX3_fewestSteps_96 : decode cX3_fewestSteps 96 = .ok (.invokestatic 55, 3) := by decide +kernel
theorem dX3_fewestSteps_99 : decode cX3_fewestSteps 99 = .ok (.iload 7, 2) := by decide +kernel
theorem dX3_fewestSteps_101 : decode cX3_fewestSteps 101 = .ok (.invokestatic 59, 3) := by decide +kernel
theorem dX3_fewestSteps_104 : decode cX3_fewestSteps 104 = .ok (.iadd, 1) := by decide +kernel
theorem dX3_fewestSteps_105 : decode cX3_fewestSteps 105 = .ok (.istore 10, 2) := by decide +kernel
theorem dX3_fewestSteps_107 : decode cX3_fewestSteps 107 = .ok (.iload_n 3, 1) := by decide +kernel
theorem dX3_fewestSteps_108 : decode cX3_fewestSteps 108 = .ok (.iload 9, 2) := by decide +kernel
theorem dX3_fewestSteps_110 : decode cX3_fewestSteps 110 = .ok (.iload 4, 2) := by decide +kernel
theorem dX3_fewestSteps_112 : decode cX3_fewestSteps 112 = .ok (.iload 9, 2) := by decide +kernel
theorem dX3_fewestSteps_114 : decode cX3_fewestSteps 114 = .ok (.iconst 1, 1) := by decide +kernel
theorem dX3_fewestSteps_115 : decode cX3_fewestSteps 115 = .ok (.isub, 1) := by decide +kernel
theorem dX3_fewestSteps_116 : decode cX3_fewestSteps 116 = .ok (.invokestatic 55, 3) := by decide +kernel
theorem dX3_fewestSteps_119 : decode cX3_fewestSteps 119 = .ok (.iload 7, 2) := by decide +kernel
theorem dX3_fewestSteps_121 : decode cX3_fewestSteps 121 = .ok (.iconst 1, 1) := by decide +kernel
theorem dX3_fewestSteps_122 : decode cX3_fewestSteps 122 = .ok (.iadd, 1) := by decide +kernel
theorem dX3_fewestSteps_123 : decode cX3_fewestSteps 123 = .ok (.invokestatic 59, 3) := by decide +kernel
theorem dX3_fewestSteps_126 : decode cX3_fewestSteps 126 = .ok (.iadd, 1) := by decide +kernel
theorem dX3_fewestSteps_127 : decode cX3_fewestSteps 127 = .ok (.istore 4, 2) := by decide +kernel
theorem dX3_fewestSteps_129 : decode cX3_fewestSteps 129 = .ok (.iload 10, 2) := by decide +kernel
theorem dX3_fewestSteps_131 : decode cX3_fewestSteps 131 = .ok (.istore_n 3, 1) := by decide +kernel
theorem dX3_fewestSteps_132 : decode cX3_fewestSteps 132 = .ok (.iload 7, 2) := by decide +kernel
theorem dX3_fewestSteps_134 : decode cX3_fewestSteps 134 = .ok (.istore_n 2, 1) := by decide +kernel
theorem dX3_fewestSteps_135 : decode cX3_fewestSteps 135 = .ok (.iinc 5 1, 3) := by decide +kernel
theorem dX3_fewestSteps_138 : decode cX3_fewestSteps 138 = .ok (.goto (-117), 3) := by decide +kernel
theorem dX3_fewestSteps_141 : decode cX3_fewestSteps 141 = .ok (.aload_n 0, 1) := by decide +kernel
theorem dX3_fewestSteps_142 : decode cX3_fewestSteps 142 = .ok (.getfield 18, 3) := by decide +kernel
theorem dX3_fewestSteps_145 : decode cX3_fewestSteps 145 = .ok (.bipush 12, 2) := by decide +kernel
theorem dX3_fewestSteps_147 : decode cX3_fewestSteps 147 = .ok (.iaload, 1) := by decide +kernel
theorem dX3_fewestSteps_148 : decode cX3_fewestSteps 148 = .ok (.aload_n 0, 1) := by decide +kernel
theorem dX3_fewestSteps_149 : decode cX3_fewestSteps 149 = .ok (.getfield 11, 3) := by decide +kernel
theorem dX3_fewestSteps_152 : decode cX3_fewestSteps 152 = .ok (.bipush 12, 2) := by decide +kernel
theorem dX3_fewestSteps_154 : decode cX3_fewestSteps 154 = .ok (.iaload, 1) := by decide +kernel
theorem dX3_fewestSteps_155 : decode cX3_fewestSteps 155 = .ok (.isub, 1) := by decide +kernel
theorem dX3_fewestSteps_156 : decode cX3_fewestSteps 156 = .ok (.istore 5, 2) := by decide +kernel
theorem dX3_fewestSteps_158 : decode cX3_fewestSteps 158 = .ok (.iload_n 3, 1) := by decide +kernel
theorem dX3_fewestSteps_159 : decode cX3_fewestSteps 159 = .ok (.iload 5, 2) := by decide +kernel
theorem dX3_fewestSteps_161 : decode cX3_fewestSteps 161 = .ok (.iload_n 2, 1) := by decide +kernel
theorem dX3_fewestSteps_162 : decode cX3_fewestSteps 162 = .ok (.isub, 1) := by decide +kernel
theorem dX3_fewestSteps_163 : decode cX3_fewestSteps 163 = .ok (.iload 4, 2) := by decide +kernel
theorem dX3_fewestSteps_165 : decode cX3_fewestSteps 165 = .ok (.iload 5, 2) := by decide +kernel
theorem dX3_fewestSteps_167 : decode cX3_fewestSteps 167 = .ok (.iload_n 2, 1) := by decide +kernel
theorem dX3_fewestSteps_168 : decode cX3_fewestSteps 168 = .ok (.isub, 1) := by decide +kernel
theorem dX3_fewestSteps_169 : decode cX3_fewestSteps 169 = .ok (.iconst 1, 1) := by decide +kernel
theorem dX3_fewestSteps_170 : decode cX3_fewestSteps 170 = .ok (.isub, 1) := by decide +kernel
theorem dX3_fewestSteps_171 : decode cX3_fewestSteps 171 = .ok (.invokestatic 55, 3) := by decide +kernel
theorem dX3_fewestSteps_174 : decode cX3_fewestSteps 174 = .ok (.ireturn, 1) := by decide +kernel
theorem zy_X3_fewestSteps : zYv yX3_fewestSteps cX3_fewestSteps 11 (some .int) 1 := ⟨zw_468, zw_469, zw_2, zw_470, by decide, by decide, by decide⟩
theorem c_X3_fewestSteps_b21 {C : zC} {I : Nat → Nat → Int32} {J : Nat → Nat → Int64} {Rr : Nat → Nat → Option Nat} {D : zD} (N : Nat) (a1 : Int32) (v_lying : (Nat → Int32)) (e_v_lying : I 2 = v_lying) (rr : Int32) (y_v_due : (Nat → Int32)) (E : zE C RX3 cX3_fewestSteps 11 (some .int) ({ frames := 2, cells := 0, slots := 0, locals := 54 } : Room)) (hQ : C.Q = zQi C ({ frames := 2, cells := 0, slots := 0, locals := 54 } : Room) rr ((va_up I 4 y_v_due), J, Rr, D)) (v_due : (Nat → Int32)) (k141 : Int32 → Int32 → Int32 → Option R_pCounters_fewestSteps) (hk141 : ∀ (x2 : Int32) (x3 : Int32) (x4 : Int32), k141 x2 x3 x4 = some (rr, y_v_due) → zB C (0, 0) 141 [(0, .ref (C.X.1 + 1)), (2, .int x2), (3, .int x3), (4, .int x4)] [] ((va_up I 4 v_due), J, Rr, D)) : ∀ (n9 : Nat) (x2 : Int32) (x3 : Int32) (x4 : Int32) (x5 : Int32), pCounters_fewestSteps_b21 N a1 v_lying v_due k141 n9 x2 x3 x4 x5 = some (rr, y_v_due) → zB C (0, 0) 21 [(0, .ref (C.X.1 + 1)), (2, .int x2), (3, .int x3), (4, .int x4), (5, .int x5)] [] ((va_up I 4 v_due), J, Rr, D) := by
  refine zlp4_ind (P := fun (x2 : Int32) (x3 : Int32) (x4 : Int32) (x5 : Int32) => zB C (0, 0) 21 [(0, .ref (C.X.1 + 1)), (2, .int x2), (3, .int x3), (4, .int x4), (5, .int x5)] [] ((va_up I 4 v_due), J, Rr, D)) (fun self ih => ?_)
  intro x2 x3 x4 x5 h
  refine zb_iload E dX3_fewestSteps_21 4 rfl ?_
  refine zb_bipush E dX3_fewestSteps_23 (v := 12) rfl ?_
  refine zb_icmp_ge E dX3_fewestSteps_25 (tgt := 141) rfl (fun hc => ?_) (fun hc => ?_)
  · have h := if_t h hc
    refine zb_sub [0, 1, 2, 3] rfl ?_
    exact hk141 x2 x3 x4 h
  · have h := if_f h hc
    refine zb_aload_n E dX3_fewestSteps_28 0 rfl rfl ?_
    refine zb_get E 1 (by decide) (zF_1 C.X) rfl zin3 2 (by decide) zw_37 (v := .ref (C.X.1 + 4)) rfl dX3_fewestSteps_29 ?_
    refine zb_iload E dX3_fewestSteps_32 4 rfl ?_
    obtain ⟨g2, h⟩ := gd_s h
    refine zb_iald E 4 (by decide) zF_4 (f := v_due) rfl (ib_in g2) dX3_fewestSteps_34 ?_
    refine zb_aload_n E dX3_fewestSteps_35 0 rfl rfl ?_
    refine zb_get E 1 (by decide) (zF_1 C.X) rfl zin3 0 (by decide) zw_35 (v := .ref (C.X.1 + 2)) rfl dX3_fewestSteps_36 ?_
    refine zb_iload E dX3_fewestSteps_39 4 rfl ?_
    refine zb_iald E 2 (by decide) zF_2 (f := v_lying) (by exact e_v_lying) (ib_in g2) dX3_fewestSteps_41 ?_
    refine zb_isub E dX3_fewestSteps_42 ?_
    refine zb_istore E dX3_fewestSteps_43 (by decide) (lv2 := [(6, .int ((v_due (ix x5)) - (v_lying (ix x5)))), (0, .ref (C.X.1 + 1)), (2, .int x2), (3, .int x3), (4, .int x4), (5, .int x5)]) rfl ?_
    refine zb_iload_n E dX3_fewestSteps_45 2 rfl rfl ?_
    refine zb_iload E dX3_fewestSteps_46 0 rfl ?_
    refine zb_isub E dX3_fewestSteps_48 ?_
    refine zb_gets1 E zw_446 dX3_fewestSteps_49 ?_
    refine zb_iload E dX3_fewestSteps_52 5 rfl ?_
    obtain ⟨g3, h⟩ := gd_s h
    refine zb_tald1 E (ib_in g3) dX3_fewestSteps_54 ?_
    obtain ⟨rc4, hc_55, h⟩ := bd1_s h
    refine zb_cSi E [.int (x2 - ((v_due (ix x5)) - (v_lying (ix x5)))), .int (zc1.getD (ix x5) 0)] zy_J9_floorDiv_7cf53 zw_471 (c_J9_floorDiv_7cf53 hc_55) (by decide) rfl rfl (by first | decide | simp [Value.category]) dX3_fewestSteps_55 (cs2 := (0, 0)) rfl ?_
    refine zb_istore E dX3_fewestSteps_58 (by decide) (lv2 := [(7, .int rc4), (6, .int ((v_due (ix x5)) - (v_lying (ix x5)))), (0, .ref (C.X.1 + 1)), (2, .int x2), (3, .int x3), (4, .int x4), (5, .int x5)]) rfl ?_
    refine zb_iload E dX3_fewestSteps_60 1 rfl ?_
    refine zb_gets1 E zw_446 dX3_fewestSteps_62 ?_
    refine zb_iload E dX3_fewestSteps_65 6 rfl ?_
    refine zb_tald1 E (ib_in g3) dX3_fewestSteps_67 ?_
    refine zb_iload E dX3_fewestSteps_68 0 rfl ?_
    refine zb_imul E dX3_fewestSteps_70 ?_
    refine zb_iadd E dX3_fewestSteps_71 ?_
    refine zb_iload_n E dX3_fewestSteps_72 3 rfl rfl ?_
    refine zb_isub E dX3_fewestSteps_73 ?_
    refine zb_istore E dX3_fewestSteps_74 (by decide) (lv2 := [(8, .int ((((v_due (ix x5)) - (v_lying (ix x5))) + ((zc1.getD (ix x5) 0) * rc4)) - x2)), (7, .int rc4), (6, .int ((v_due (ix x5)) - (v_lying (ix x5)))), (0, .ref (C.X.1 + 1)), (2, .int x2), (3, .int x3), (4, .int x4), (5, .int x5)]) rfl ?_
    refine zb_iload E dX3_fewestSteps_76 0 rfl ?_
    refine zb_gets1 E zw_446 dX3_fewestSteps_78 ?_
    refine zb_iload E dX3_fewestSteps_81 7 rfl ?_
    refine zb_tald1 E (ib_in g3) dX3_fewestSteps_83 ?_
    refine zb_iadd E dX3_fewestSteps_84 ?_
    refine zb_istore E dX3_fewestSteps_85 (by decide) (lv2 := [(9, .int (((((v_due (ix x5)) - (v_lying (ix x5))) + ((zc1.getD (ix x5) 0) * rc4)) - x2) + (zc1.getD (ix x5) 0))), (8, .int ((((v_due (ix x5)) - (v_lying (ix x5))) + ((zc1.getD (ix x5) 0) * rc4)) - x2)), (7, .int rc4), (6, .int ((v_due (ix x5)) - (v_lying (ix x5)))), (0, .ref (C.X.1 + 1)), (2, .int x2), (3, .int x3), (4, .int x4), (5, .int x5)]) rfl ?_
    refine zb_iload_n E dX3_fewestSteps_87 6 rfl rfl ?_
    refine zb_iload E dX3_fewestSteps_88 1 rfl ?_
    refine zb_iload E dX3_fewestSteps_90 7 rfl ?_
    refine zb_iload E dX3_fewestSteps_92 1 rfl ?_
    refine zb_iconst E dX3_fewestSteps_94 (v := 1) rfl ?_
    refine zb_isub E dX3_fewestSteps_95 ?_
    obtain ⟨rc5, hc_96, h⟩ := bd1_s h
    refine zb_cSi E [.int x3, .int ((((v_due (ix x5)) - (v_lying (ix x5))) + ((zc1.getD (ix x5) 0) * rc4)) - x2), .int x4, .int (((((v_due (ix x5)) - (v_lying (ix x5))) + ((zc1.getD (ix x5) 0) * rc4)) - x2) - 1)] zy_X3_cheaper zw_474 (c_X3_cheaper hc_96) (by decide) rfl rfl (by first | decide | simp [Value.category]) dX3_fewestSteps_96 (cs2 := (0, 0)) rfl ?_
    refine zb_iload E dX3_fewestSteps_99 2 rfl ?_
    refine zb_mabs E zYm_mabs zw_477 (by decide) (by first | decide | simp [Value.category]) dX3_fewestSteps_101 ?_
    refine zb_iadd E dX3_fewestSteps_104 ?_
    refine zb_istore E dX3_fewestSteps_105 (by decide) (lv2 := [(10, .int (rc5 + (m_abs rc4))), (9, .int (((((v_due (ix x5)) - (v_lying (ix x5))) + ((zc1.getD (ix x5) 0) * rc4)) - x2) + (zc1.getD (ix x5) 0))), (8, .int ((((v_due (ix x5)) - (v_lying (ix x5))) + ((zc1.getD (ix x5) 0) * rc4)) - x2)), (7, .int rc4), (6, .int ((v_due (ix x5)) - (v_lying (ix x5)))), (0, .ref (C.X.1 + 1)), (2, .int x2), (3, .int x3), (4, .int x4), (5, .int x5)]) rfl ?_
    refine zb_iload_n E dX3_fewestSteps_107 7 rfl rfl ?_
    refine zb_iload E dX3_fewestSteps_108 1 rfl ?_
    refine zb_iload E dX3_fewestSteps_110 8 rfl ?_
    refine zb_iload E dX3_fewestSteps_112 1 rfl ?_
    refine zb_iconst E dX3_fewestSteps_114 (v := 1) rfl ?_
    refine zb_isub E dX3_fewestSteps_115 ?_
    obtain ⟨rc6, hc_116, h⟩ := bd1_s h
    refine zb_cSi E [.int x3, .int (((((v_due (ix x5)) - (v_lying (ix x5))) + ((zc1.getD (ix x5) 0) * rc4)) - x2) + (zc1.getD (ix x5) 0)), .int x4, .int ((((((v_due (ix x5)) - (v_lying (ix x5))) + ((zc1.getD (ix x5) 0) * rc4)) - x2) + (zc1.getD (ix x5) 0)) - 1)] zy_X3_cheaper zw_474 (c_X3_cheaper hc_116) (by decide) rfl rfl (by first | decide | simp [Value.category]) dX3_fewestSteps_116 (cs2 := (0, 0)) rfl ?_
    refine zb_iload E dX3_fewestSteps_119 3 rfl ?_
    refine zb_iconst E dX3_fewestSteps_121 (v := 1) rfl ?_
    refine zb_iadd E dX3_fewestSteps_122 ?_
    refine zb_mabs E zYm_mabs zw_477 (by decide) (by first | decide | simp [Value.category]) dX3_fewestSteps_123 ?_
    refine zb_iadd E dX3_fewestSteps_126 ?_
    refine zb_istore E dX3_fewestSteps_127 (by decide) (lv2 := [(4, .int (rc6 + (m_abs (rc4 + 1)))), (10, .int (rc5 + (m_abs rc4))), (9, .int (((((v_due (ix x5)) - (v_lying (ix x5))) + ((zc1.getD (ix x5) 0) * rc4)) - x2) + (zc1.getD (ix x5) 0))), (8, .int ((((v_due (ix x5)) - (v_lying (ix x5))) + ((zc1.getD (ix x5) 0) * rc4)) - x2)), (7, .int rc4), (6, .int ((v_due (ix x5)) - (v_lying (ix x5)))), (0, .ref (C.X.1 + 1)), (2, .int x2), (3, .int x3), (5, .int x5)]) rfl ?_
    refine zb_iload E dX3_fewestSteps_129 1 rfl ?_
    refine zb_istore_n E dX3_fewestSteps_131 rfl (by decide) (lv2 := [(3, .int (rc5 + (m_abs rc4))), (4, .int (rc6 + (m_abs (rc4 + 1)))), (10, .int (rc5 + (m_abs rc4))), (9, .int (((((v_due (ix x5)) - (v_lying (ix x5))) + ((zc1.getD (ix x5) 0) * rc4)) - x2) + (zc1.getD (ix x5) 0))), (8, .int ((((v_due (ix x5)) - (v_lying (ix x5))) + ((zc1.getD (ix x5) 0) * rc4)) - x2)), (7, .int rc4), (6, .int ((v_due (ix x5)) - (v_lying (ix x5)))), (0, .ref (C.X.1 + 1)), (2, .int x2), (5, .int x5)]) rfl ?_
    refine zb_iload E dX3_fewestSteps_132 5 rfl ?_
    refine zb_istore_n E dX3_fewestSteps_134 rfl (by decide) (lv2 := [(2, .int rc4), (3, .int (rc5 + (m_abs rc4))), (4, .int (rc6 + (m_abs (rc4 + 1)))), (10, .int (rc5 + (m_abs rc4))), (9, .int (((((v_due (ix x5)) - (v_lying (ix x5))) + ((zc1.getD (ix x5) 0) * rc4)) - x2) + (zc1.getD (ix x5) 0))), (8, .int ((((v_due (ix x5)) - (v_lying (ix x5))) + ((zc1.getD (ix x5) 0) * rc4)) - x2)), (7, .int rc4), (6, .int ((v_due (ix x5)) - (v_lying (ix x5)))), (0, .ref (C.X.1 + 1)), (5, .int x5)]) rfl ?_
    refine zb_iinc E dX3_fewestSteps_135 9 rfl (v := (x5 + 1)) rfl (by decide) (lv2 := [(5, .int (x5 + 1)), (2, .int rc4), (3, .int (rc5 + (m_abs rc4))), (4, .int (rc6 + (m_abs (rc4 + 1)))), (10, .int (rc5 + (m_abs rc4))), (9, .int (((((v_due (ix x5)) - (v_lying (ix x5))) + ((zc1.getD (ix x5) 0) * rc4)) - x2) + (zc1.getD (ix x5) 0))), (8, .int ((((v_due (ix x5)) - (v_lying (ix x5))) + ((zc1.getD (ix x5) 0) * rc4)) - x2)), (7, .int rc4), (6, .int ((v_due (ix x5)) - (v_lying (ix x5)))), (0, .ref (C.X.1 + 1))]) rfl ?_
    refine zb_goto E dX3_fewestSteps_138 (tgt := 21) rfl ?_
    refine zb_sub [9, 1, 2, 3, 0] rfl ?_
    exact ih rc4 (rc5 + (m_abs rc4)) (rc6 + (m_abs (rc4 + 1))) (x5 + 1) h
theorem c_X3_fewestSteps_b141 {C : zC} {I : Nat → Nat → Int32} {J : Nat → Nat → Int64} {Rr : Nat → Nat → Option Nat} {D : zD} (N : Nat) (a1 : Int32) (v_lying : (Nat → Int32)) (e_v_lying : I 2 = v_lying) (rr : Int32) (y_v_due : (Nat → Int32)) (E : zE C RX3 cX3_fewestSteps 11 (some .int) ({ frames := 2, cells := 0, slots := 0, locals := 54 } : Room)) (hQ : C.Q = zQi C ({ frames := 2, cells := 0, slots := 0, locals := 54 } : Room) rr ((va_up I 4 y_v_due), J, Rr, D)) (x2 : Int32) (x3 : Int32) (x4 : Int32) (v_due : (Nat → Int32)) (h : pCounters_fewestSteps_b141 N a1 v_lying x2 x3 x4 v_due = some (rr, y_v_due)) : zB C (0, 0) 141 [(0, .ref (C.X.1 + 1)), (2, .int x2), (3, .int x3), (4, .int x4)] [] ((va_up I 4 v_due), J, Rr, D) := by
  refine zb_aload_n E dX3_fewestSteps_141 0 rfl rfl ?_
  refine zb_get E 1 (by decide) (zF_1 C.X) rfl zin3 2 (by decide) zw_37 (v := .ref (C.X.1 + 4)) rfl dX3_fewestSteps_142 ?_
  refine zb_bipush E dX3_fewestSteps_145 (v := 12) rfl ?_
  refine zb_iald E 4 (by decide) zF_4 (f := v_due) rfl (ib_in (by decide)) dX3_fewestSteps_147 ?_
  refine zb_aload_n E dX3_fewestSteps_148 0 rfl rfl ?_
  refine zb_get E 1 (by decide) (zF_1 C.X) rfl zin3 0 (by decide) zw_35 (v := .ref (C.X.1 + 2)) rfl dX3_fewestSteps_149 ?_
  refine zb_bipush E dX3_fewestSteps_152 (v := 12) rfl ?_
  refine zb_iald E 2 (by decide) zF_2 (f := v_lying) (by exact e_v_lying) (ib_in (by decide)) dX3_fewestSteps_154 ?_
  refine zb_isub E dX3_fewestSteps_155 ?_
  refine zb_istore E dX3_fewestSteps_156 (by decide) (lv2 := [(5, .int ((v_due (ix 12)) - (v_lying (ix 12)))), (0, .ref (C.X.1 + 1)), (2, .int x2), (3, .int x3), (4, .int x4)]) rfl ?_
  refine zb_iload_n E dX3_fewestSteps_158 3 rfl rfl ?_
  refine zb_iload E dX3_fewestSteps_159 0 rfl ?_
  refine zb_iload_n E dX3_fewestSteps_161 2 rfl rfl ?_
  refine zb_isub E dX3_fewestSteps_162 ?_
  refine zb_iload E dX3_fewestSteps_163 4 rfl ?_
  refine zb_iload E dX3_fewestSteps_165 0 rfl ?_
  refine zb_iload_n E dX3_fewestSteps_167 2 rfl rfl ?_
  refine zb_isub E dX3_fewestSteps_168 ?_
  refine zb_iconst E dX3_fewestSteps_169 (v := 1) rfl ?_
  refine zb_isub E dX3_fewestSteps_170 ?_
  obtain ⟨rc7, hc_171, h⟩ := bd1_s h
  refine zb_cSi E [.int x3, .int (((v_due (ix 12)) - (v_lying (ix 12))) - x2), .int x4, .int ((((v_due (ix 12)) - (v_lying (ix 12))) - x2) - 1)] zy_X3_cheaper zw_474 (c_X3_cheaper hc_171) (by decide) rfl rfl (by first | decide | simp [Value.category]) dX3_fewestSteps_171 (cs2 := (0, 0)) rfl ?_
  obtain ⟨rfl, rfl⟩ := zinj2 h
  exact zb_iret E hQ rfl ⟨Nat.zero_le _, Nat.zero_le _⟩ dX3_fewestSteps_174
theorem c_X3_fewestSteps_0 {C : zC} {I : Nat → Nat → Int32} {J : Nat → Nat → Int64} {Rr : Nat → Nat → Option Nat} {D : zD} (N : Nat) (a1 : Int32) (v_lying : (Nat → Int32)) (e_v_lying : I 2 = v_lying) (rr : Int32) (y_v_due : (Nat → Int32)) (E : zE C RX3 cX3_fewestSteps 11 (some .int) ({ frames := 2, cells := 0, slots := 0, locals := 54 } : Room)) (hQ : C.Q = zQi C ({ frames := 2, cells := 0, slots := 0, locals := 54 } : Room) rr ((va_up I 4 y_v_due), J, Rr, D)) (v_due : (Nat → Int32)) (h : pCounters_fewestSteps N a1 v_due v_lying = some (rr, y_v_due)) : zB C (0, 0) 0 [(0, .ref (C.X.1 + 1)), (1, .int a1)] [] ((va_up I 4 v_due), J, Rr, D) := by
  refine zb_aload_n E dX3_fewestSteps_0 0 rfl rfl ?_
  refine zb_iload_n E dX3_fewestSteps_1 1 rfl rfl ?_
  obtain ⟨rc1, v_due_c1, hc_2, h⟩ := bd2_s h
  refine zb_cVi E [.int a1] 1 zy_X3_tellPlain zw_429 (by decide) (zF_1 _ _ _ _) rfl (c_X3_tellPlain v_due rfl hc_2) (by decide) rfl rfl (by first | decide | simp [Value.category]) dX3_fewestSteps_2 (cs2 := (0, 0)) rfl ?_
  refine zb_S (S2 := ((va_up I 4 v_due_c1), J, Rr, D)) (zS_eq zn1 rfl) ?_
  refine zb_if_ne E dX3_fewestSteps_5 (tgt := 10) rfl (fun hc => ?_) (fun hc => ?_)
  · have h := if_f h hc
    refine zb_iconst E dX3_fewestSteps_10 (v := 0) rfl ?_
    refine zb_istore_n E dX3_fewestSteps_11 rfl (by decide) (lv2 := [(2, .int 0), (0, .ref (C.X.1 + 1)), (1, .int a1)]) rfl ?_
    refine zb_iconst E dX3_fewestSteps_12 (v := 0) rfl ?_
    refine zb_istore_n E dX3_fewestSteps_13 rfl (by decide) (lv2 := [(3, .int 0), (2, .int 0), (0, .ref (C.X.1 + 1)), (1, .int a1)]) rfl ?_
    refine zb_ldc E dX3_fewestSteps_14 (v := 1000000000) zw_433 ?_
    refine zb_istore E dX3_fewestSteps_16 (by decide) (lv2 := [(4, .int 1000000000), (3, .int 0), (2, .int 0), (0, .ref (C.X.1 + 1)), (1, .int a1)]) rfl ?_
    refine zb_iconst E dX3_fewestSteps_18 (v := 0) rfl ?_
    refine zb_istore E dX3_fewestSteps_19 (by decide) (lv2 := [(5, .int 0), (4, .int 1000000000), (3, .int 0), (2, .int 0), (0, .ref (C.X.1 + 1)), (1, .int a1)]) rfl ?_
    refine zb_sub [4, 3, 2, 1, 0] rfl ?_
    exact c_X3_fewestSteps_b21 N a1 v_lying e_v_lying rr y_v_due E hQ v_due_c1 _ (fun x2_z1 x3_z2 x4_z3 h => c_X3_fewestSteps_b141 N a1 v_lying e_v_lying rr y_v_due E hQ x2_z1 x3_z2 x4_z3 v_due_c1 h) _ 0 0 1000000000 0 h
  · have h := if_t h hc
    refine zb_iconst E dX3_fewestSteps_8 (v := (-1)) rfl ?_
    obtain ⟨rfl, rfl⟩ := zinj2 h
    exact zb_iret E hQ rfl ⟨Nat.zero_le _, Nat.zero_le _⟩ dX3_fewestSteps_9
theorem c_X3_fewestSteps {l : Launch} {X : zX} {I : Nat → Nat → Int32} {J : Nat → Nat → Int64} {Rr : Nat → Nat → Option Nat} {D : zD} {N : Nat} {a1 : Int32} (v_lying : (Nat → Int32)) (e_v_lying : I 2 = v_lying) (v_due : (Nat → Int32)) (e_v_due : I 4 = v_due) {rr : Int32} {y_v_due : (Nat → Int32)} (h : pCounters_fewestSteps N a1 v_due v_lying = some (rr, y_v_due)) : zMi l yX3_fewestSteps cX3_fewestSteps 11 (some .int) ({ frames := 2, cells := 0, slots := 0, locals := 54 } : Room) X [.ref (X.1 + 1), .int a1] (I, J, Rr, D) rr ((va_up I 4 y_v_due), J, Rr, D) := by
  refine zMi.of (by decide) (Nat.le_of_ble_eq_true rfl) (fun C E hl hX hQ => ?_)
  subst hl
  subst hX
  have eI0 : (va_up I 4 v_due) = I := by rw [zup_idE e_v_due]
  have eJ0 : J = J := rfl
  refine zb_S (S2 := ((va_up I 4 v_due), J, Rr, D)) (zS_eq eI0.symm eJ0.symm) ?_
  exact c_X3_fewestSteps_0 N a1 v_lying e_v_lying rr y_v_due E hQ v_due h
