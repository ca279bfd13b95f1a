set_option maxHeartbeats 4000000
set_option maxRecDepth 100000
-- ChequeredCloth$Acts.isFull
theorem dX0_isFull_0 : decode cX0_isFull 0 = .ok (.aload_n 0, 1) := by decide +kernel
theorem dX0_isFull_1 : decode cX0_isFull 1 = .ok (.getfield 33, 3) := by decide +kernel
theorem dX0_isFull_4 : decode cX0_isFull 4 = .ok (.sipush 200, 3) := by decide +kernel
theorem dX0_isFull_7 : decode cX0_isFull 7 = .ok (.if_icmp .lt 7, 3) := by decide +kernel
theorem dX0_isFull_10 : decode cX0_isFull 10 = .ok (.iconst 1, 1) := by decide +kernel
theorem dX0_isFull_11 : decode cX0_isFull 11 = .ok (.goto 4, 3) := by decide +kernel
theorem dX0_isFull_14 : decode cX0_isFull 14 = .ok (.iconst 0, 1) := by decide +kernel
theorem dX0_isFull_15 : decode cX0_isFull 15 = .ok (.ireturn, 1) := by decide +kernel
theorem zy_X0_isFull : zYv yX0_isFull cX0_isFull 1 (some .boolean) 0 := ⟨zw_629, zw_630, zw_7, zw_631, by decide, by decide, by decide⟩
theorem c_X0_isFull_0 {C : zC} {I : Nat → Nat → Int32} {J : Nat → Nat → Int64} {Rr : Nat → Nat → Option Nat} {D : zD} (v_count : Int32) (e_v_count : I 37 6 = v_count) (rr : Int32) (E : zE C RX0 cX0_isFull 1 (some .boolean) ({ frames := 0, cells := 0, slots := 0, locals := 0 } : Room)) (hQ : C.Q = zQi C ({ frames := 0, cells := 0, slots := 0, locals := 0 } : Room) rr (I, J, Rr, D)) (h : pActs_isFull v_count = some rr) : zB C (0, 0) 0 [(0, .ref (C.X.1 + 37))] [] (I, J, Rr, D) := by
  refine zb_aload_n E dX0_isFull_0 0 rfl rfl ?_
  refine zb_get E 37 (by decide) (zF_37 C.X) rfl zin0 6 (by decide) zw_200 (v := .int v_count) (by exact congrArg (fun z => some (Value.int z)) e_v_count) dX0_isFull_1 ?_
  refine zb_sipush E dX0_isFull_4 (v := 200) rfl ?_
  refine zb_icmp_lt E dX0_isFull_7 (tgt := 14) rfl (fun hc => ?_) (fun hc => ?_)
  · have h := if_t h hc
    refine zb_iconst E dX0_isFull_14 (v := 0) rfl ?_
    obtain rfl := zinj1 h
    exact zb_zret E hQ (ty := .boolean) rfl rfl ⟨Nat.zero_le _, Nat.zero_le _⟩ dX0_isFull_15
  · have h := if_f h hc
    refine zb_iconst E dX0_isFull_10 (v := 1) rfl ?_
    refine zb_goto E dX0_isFull_11 (tgt := 15) rfl ?_
    obtain rfl := zinj1 h
    exact zb_zret E hQ (ty := .boolean) rfl rfl ⟨Nat.zero_le _, Nat.zero_le _⟩ dX0_isFull_15
theorem c_X0_isFull {l : Launch} {X : zX} {I : Nat → Nat → Int32} {J : Nat → Nat → Int64} {Rr : Nat → Nat → Option Nat} {D : zD} (v_count : Int32) (e_v_count : I 37 6 = v_count) {rr : Int32} (h : pActs_isFull v_count = some rr) : zMi l yX0_isFull cX0_isFull 1 (some .boolean) ({ frames := 0, cells := 0, slots := 0, locals := 0 } : Room) X [.ref (X.1 + 37)] (I, J, Rr, D) rr (I, J, Rr, D) := by
  refine zMi.of (by decide) (Nat.le_of_ble_eq_true rfl) (fun C E hl hX hQ => ?_)
  subst hl
  subst hX
  have eI0 : I = I := rfl
  have eJ0 : J = J := rfl
  refine zb_S (S2 := (I, J, Rr, D)) (zS_eq eI0.symm eJ0.symm) ?_
  exact c_X0_isFull_0 v_count e_v_count rr E hQ h
-- ChequeredCloth$Acts.add
theorem dX0_add_0 : decode cX0_add 0 = .ok (.aload_n 0, 1) := by decide +kernel
theorem dX0_add_1 : decode cX0_add 1 = .ok (.invokevirtual 37, 3) := by decide +kernel
theorem dX0_add_4 : decode cX0_add 4 = .ok (.ifCond .eq 5, 3) := by decide +kernel
theorem dX0_add_7 : decode cX0_add 7 = .ok (.iconst (-1), 1) := by decide +kernel
theorem dX0_add_8 : decode cX0_add 8 = .ok (.ireturn, 1) := by decide +kernel
theorem dX0_add_9 : decode cX0_add 9 = .ok (.aload_n 0, 1) := by decide +kernel
theorem dX0_add_10 : decode cX0_add 10 = .ok (.dup, 1) := by decide +kernel
theorem dX0_add_11 : decode cX0_add 11 = .ok (.getfield 33, 3) := by decide +kernel
theorem dX0_add_14 : decode cX0_add 14 = .ok (.iconst 1, 1) := by decide +kernel
theorem dX0_add_15 : decode cX0_add 15 = .ok (.iadd, 1) := by decide +kernel
theorem dX0_add_16 : decode cX0_add 16 = .ok (.putfield 33, 3) := by decide +kernel
theorem dX0_add_19 : decode cX0_add 19 = .ok (.aload_n 0, 1) := by decide +kernel
theorem dX0_add_20 : decode cX0_add 20 = .ok (.getfield 9, 3) := by decide +kernel
theorem dX0_add_23 : decode cX0_add 23 = .ok (.aload_n 0, 1) := by decide +kernel
theorem dX0_add_24 : decode cX0_add 24 = .ok (.getfield 33, 3) := by decide +kernel
theorem dX0_add_27 : decode cX0_add 27 = .ok (.iload_n 1, 1) := by decide +kernel
theorem dX0_add_28 : decode cX0_add 28 = .ok (.iastore, 1) := by decide +kernel
theorem dX0_add_29 : decode cX0_add 29 = .ok (.aload_n 0, 1) := by decide +kernel
theorem dX0_add_30 : decode cX0_add 30 = .ok (.getfield 15, 3) := by decide +kernel
theorem dX0_add_33 : decode cX0_add 33 = .ok (.aload_n 0, 1) := by decide +kernel
theorem dX0_add_34 : decode cX0_add 34 = .ok (.getfield 33, 3) := by decide +kernel
theorem dX0_add_37 : decode cX0_add 37 = .ok (.iload_n 2, 1) := by decide +kernel
theorem dX0_add_38 : decode cX0_add 38 = .ok (.iastore, 1) := by decide +kernel
theorem dX0_add_39 : decode cX0_add 39 = .ok (.aload_n 0, 1) := by decide +kernel
theorem dX0_add_40 : decode cX0_add 40 = .ok (.getfield 18, 3) := by decide +kernel
theorem dX0_add_43 : decode cX0_add 43 = .ok (.aload_n 0, 1) := by decide +kernel
theorem dX0_add_44 : decode cX0_add 44 = .ok (.getfield 33, 3) := by decide +kernel
theorem dX0_add_47 : decode cX0_add 47 = .ok (.iload_n 3, 1) := by decide +kernel
theorem dX0_add_48 : decode cX0_add 48 = .ok (.iastore, 1) := by decide +kernel
theorem dX0_add_49 : decode cX0_add 49 = .ok (.aload_n 0, 1) := by decide +kernel
theorem dX0_add_50 : decode cX0_add 50 = .ok (.getfield 21, 3) := by decide +kernel
theorem dX0_add_53 : decode cX0_add 53 = .ok (.aload_n 0, 1) := by decide +kernel
theorem dX0_add_54 : decode cX0_add 54 = .ok (.getfield 33, 3) := by decide +kernel
theorem dX0_add_57 : decode cX0_add 57 = .ok (.iload 4, 2) := by decide +kernel
theorem dX0_add_59 : decode cX0_add 59 = .ok (.iastore, 1) := by decide +kernel
theorem dX0_add_60 : decode cX0_add 60 = .ok (.aload_n 0, 1) := by decide +kernel
theorem dX0_add_61 : decode cX0_add 61 = .ok (.getfield 33, 3) := by decide +kernel
theorem dX0_add_64 : decode cX0_add 64 = .ok (.ireturn, 1) := by decide +kernel
theorem zy_X0_add : zYv yX0_add cX0_add 5 (some .int) 4 := ⟨zw_861, zw_862, zw_7, zw_863, by decide, by decide, by decide⟩
theorem c_X0_add_0 {C : zC} {I : Nat → Nat → Int32} {J : Nat → Nat → Int64} {Rr : Nat → Nat → Option Nat} {D : zD} (a1 : Int32) (a2 : Int32) (a3 : Int32) (a4 : Int32) (rr : Int32) (y_v_count : Int32) (y_v_amounts : (Nat → Int32)) (y_v_kinds : (Nat → Int32)) (y_v_shires : (Nat → Int32)) (y_v_terms : (Nat → Int32)) (E : zE C RX0 cX0_add 5 (some .int) ({ frames := 1, cells := 0, slots := 0, locals := 20 } : Room)) (hQ : C.Q = zQi C ({ frames := 1, cells := 0, slots := 0, locals := 20 } : Room) rr ((va_up (va_up (va_up (va_up (va_up I 37 (va_up (I 37) 6 y_v_count)) 38 y_v_kinds) 39 y_v_shires) 40 y_v_terms) 41 y_v_amounts), J, Rr, D)) (v_count : Int32) (v_amounts : (Nat → Int32)) (v_kinds : (Nat → Int32)) (v_shires : (Nat → Int32)) (v_terms : (Nat → Int32)) (h : pActs_add a1 a2 a3 a4 v_count v_amounts v_kinds v_shires v_terms = some (rr, y_v_count, y_v_amounts, y_v_kinds, y_v_shires, y_v_terms)) : zB C (0, 0) 0 [(0, .ref (C.X.1 + 37)), (1, .int a1), (2, .int a2), (3, .int a3), (4, .int a4)] [] ((va_up (va_up (va_up (va_up (va_up I 37 (va_up (I 37) 6 v_count)) 38 v_kinds) 39 v_shires) 40 v_terms) 41 v_amounts), J, Rr, D) := by
  refine zb_aload_n E dX0_add_0 0 rfl rfl ?_
  obtain ⟨rc1, hc_1, h⟩ := bd1_s h
  refine zb_cVi E [] 37 zy_X0_isFull zw_864 (by decide) (zF_37 _ _ _ _) rfl (c_X0_isFull v_count rfl hc_1) (by decide) rfl rfl (by first | decide | simp [Value.category]) dX0_add_1 (cs2 := (0, 0)) rfl ?_
  refine zb_if_eq E dX0_add_4 (tgt := 9) rfl (fun hc => ?_) (fun hc => ?_)
  · have h := if_t h hc
    refine zb_aload_n E dX0_add_9 0 rfl rfl ?_
    refine zb_dup E dX0_add_10 rfl ?_
    refine zb_get E 37 (by decide) (zF_37 C.X) rfl zin0 6 (by decide) zw_200 (v := .int v_count) rfl dX0_add_11 ?_
    refine zb_iconst E dX0_add_14 (v := 1) rfl ?_
    refine zb_iadd E dX0_add_15 ?_
    refine zb_put E 37 (by decide) (zF_37 C.X) rfl zin0 6 (by decide) zw_200 tyX0 tyX0_ok nmX0 rfl rfl rfl (I2 := (va_up (va_up (va_up (va_up (va_up I 37 (va_up (I 37) 6 (v_count + 1))) 38 v_kinds) 39 v_shires) 40 v_terms) 41 v_amounts)) (J2 := J) ((zset0_6 C.X (va_up (I 37) 6 v_count) (J 37) (v_count + 1)).trans (congrArg (fun g => zf0 C.X g (J 37)) zn1)) (by rw [zflen0]; decide) (fun j hj => ⟨zup_cg (zup_cg (zup_cg (zup_cg ((zup_n hj).trans (zup_n hj).symm)))), rfl⟩) dX0_add_16 ?_
    refine zb_aload_n E dX0_add_19 0 rfl rfl ?_
    refine zb_get E 37 (by decide) (zF_37 C.X) rfl zin0 0 (by decide) zw_184 (v := .ref (C.X.1 + 38)) rfl dX0_add_20 ?_
    refine zb_aload_n E dX0_add_23 0 rfl rfl ?_
    refine zb_get E 37 (by decide) (zF_37 C.X) rfl zin0 6 (by decide) zw_200 (v := .int (v_count + 1)) rfl dX0_add_24 ?_
    refine zb_iload_n E dX0_add_27 1 rfl rfl ?_
    obtain ⟨g2, h⟩ := gd_s h
    refine zb_iast E 38 (by decide) zF_38 (f := v_kinds) rfl (ib_in g2) dX0_add_28 (I2 := (va_up (va_up (va_up (va_up (va_up I 37 (va_up (I 37) 6 (v_count + 1))) 38 (upd v_kinds (ix (v_count + 1)) a1)) 39 v_shires) 40 v_terms) 41 v_amounts)) (zn4 (by decide : (41 : Nat) ≠ 38) (by decide : (40 : Nat) ≠ 38) (by decide : (39 : Nat) ≠ 38)) ?_
    refine zb_aload_n E dX0_add_29 0 rfl rfl ?_
    refine zb_get E 37 (by decide) (zF_37 C.X) rfl zin0 1 (by decide) zw_188 (v := .ref (C.X.1 + 39)) rfl dX0_add_30 ?_
    refine zb_aload_n E dX0_add_33 0 rfl rfl ?_
    refine zb_get E 37 (by decide) (zF_37 C.X) rfl zin0 6 (by decide) zw_200 (v := .int (v_count + 1)) rfl dX0_add_34 ?_
    refine zb_iload_n E dX0_add_37 2 rfl rfl ?_
    refine zb_iast E 39 (by decide) zF_39 (f := v_shires) rfl (ib_in g2) dX0_add_38 (I2 := (va_up (va_up (va_up (va_up (va_up I 37 (va_up (I 37) 6 (v_count + 1))) 38 (upd v_kinds (ix (v_count + 1)) a1)) 39 (upd v_shires (ix (v_count + 1)) a2)) 40 v_terms) 41 v_amounts)) (zn3 (by decide : (41 : Nat) ≠ 39) (by decide : (40 : Nat) ≠ 39)) ?_
    refine zb_aload_n E dX0_add_39 0 rfl rfl ?_
    refine zb_get E 37 (by decide) (zF_37 C.X) rfl zin0 2 (by decide) zw_191 (v := .ref (C.X.1 + 40)) rfl dX0_add_40 ?_
    refine zb_aload_n E dX0_add_43 0 rfl rfl ?_
    refine zb_get E 37 (by decide) (zF_37 C.X) rfl zin0 6 (by decide) zw_200 (v := .int (v_count + 1)) rfl dX0_add_44 ?_
    refine zb_iload_n E dX0_add_47 3 rfl rfl ?_
    refine zb_iast E 40 (by decide) zF_40 (f := v_terms) rfl (ib_in g2) dX0_add_48 (I2 := (va_up (va_up (va_up (va_up (va_up I 37 (va_up (I 37) 6 (v_count + 1))) 38 (upd v_kinds (ix (v_count + 1)) a1)) 39 (upd v_shires (ix (v_count + 1)) a2)) 40 (upd v_terms (ix (v_count + 1)) a3)) 41 v_amounts)) (zn2 (by decide : (41 : Nat) ≠ 40)) ?_
    refine zb_aload_n E dX0_add_49 0 rfl rfl ?_
    refine zb_get E 37 (by decide) (zF_37 C.X) rfl zin0 3 (by decide) zw_194 (v := .ref (C.X.1 + 41)) rfl dX0_add_50 ?_
    refine zb_aload_n E dX0_add_53 0 rfl rfl ?_
    refine zb_get E 37 (by decide) (zF_37 C.X) rfl zin0 6 (by decide) zw_200 (v := .int (v_count + 1)) rfl dX0_add_54 ?_
    refine zb_iload E dX0_add_57 4 rfl ?_
    refine zb_iast E 41 (by decide) zF_41 (f := v_amounts) rfl (ib_in g2) dX0_add_59 (I2 := (va_up (va_up (va_up (va_up (va_up I 37 (va_up (I 37) 6 (v_count + 1))) 38 (upd v_kinds (ix (v_count + 1)) a1)) 39 (upd v_shires (ix (v_count + 1)) a2)) 40 (upd v_terms (ix (v_count + 1)) a3)) 41 (upd v_amounts (ix (v_count + 1)) a4))) zn1 ?_
    refine zb_aload_n E dX0_add_60 0 rfl rfl ?_
    refine zb_get E 37 (by decide) (zF_37 C.X) rfl zin0 6 (by decide) zw_200 (v := .int (v_count + 1)) rfl dX0_add_61 ?_
    obtain ⟨rfl, rfl, rfl, rfl, rfl, rfl⟩ := zinj6 h
    exact zb_iret E hQ rfl ⟨Nat.zero_le _, Nat.zero_le _⟩ dX0_add_64
  · have h := if_f h hc
    refine zb_iconst E dX0_add_7 (v := (-1)) rfl ?_
    obtain ⟨rfl, rfl, rfl, rfl, rfl, rfl⟩ := zinj6 h
    exact zb_iret E hQ rfl ⟨Nat.zero_le _, Nat.zero_le _⟩ dX0_add_8
theorem c_X0_add {l : Launch} {X : zX} {I : Nat → Nat → Int32} {J : Nat → Nat → Int64} {Rr : Nat → Nat → Option Nat} {D : zD} {a1 : Int32} {a2 : Int32} {a3 : Int32} {a4 : Int32} (oI37 : Nat → Int32) (eoI37 : I 37 = oI37) (v_count : Int32) (e_v_count : I 37 6 = v_count) (v_amounts : (Nat → Int32)) (e_v_amounts : I 41 = v_amounts) (v_kinds : (Nat → Int32)) (e_v_kinds : I 38 = v_kinds) (v_shires : (Nat → Int32)) (e_v_shires : I 39 = v_shires) (v_terms : (Nat → Int32)) (e_v_terms : I 40 = v_terms) {rr : Int32} {y_v_count : Int32} {y_v_amounts : (Nat → Int32)} {y_v_kinds : (Nat → Int32)} {y_v_shires : (Nat → Int32)} {y_v_terms : (Nat → Int32)} (h : pActs_add a1 a2 a3 a4 v_count v_amounts v_kinds v_shires v_terms = some (rr, y_v_count, y_v_amounts, y_v_kinds, y_v_shires, y_v_terms)) : zMi l yX0_add cX0_add 5 (some .int) ({ frames := 1, cells := 0, slots := 0, locals := 20 } : Room) X [.ref (X.1 + 37), .int a1, .int a2, .int a3, .int a4] (I, J, Rr, D) rr ((va_up (va_up (va_up (va_up (va_up I 37 (va_up oI37 6 y_v_count)) 38 y_v_kinds) 39 y_v_shires) 40 y_v_terms) 41 y_v_amounts), J, Rr, D) := by
  subst eoI37
  refine zMi.of (by decide) (Nat.le_of_ble_eq_true rfl) (fun C E hl hX hQ => ?_)
  subst hl
  subst hX
  have eI0 : (va_up (va_up (va_up (va_up (va_up I 37 (va_up (I 37) 6 v_count)) 38 v_kinds) 39 v_shires) 40 v_terms) 41 v_amounts) = I := by rw [zup_idE e_v_count, zup_id, zup_idE e_v_kinds, zup_idE e_v_shires, zup_idE e_v_terms, zup_idE e_v_amounts]
  have eJ0 : J = J := rfl
  refine zb_S (S2 := ((va_up (va_up (va_up (va_up (va_up I 37 (va_up (I 37) 6 v_count)) 38 v_kinds) 39 v_shires) 40 v_terms) 41 v_amounts), J, Rr, D)) (zS_eq eI0.symm eJ0.symm) ?_
  exact c_X0_add_0 a1 a2 a3 a4 rr y_v_count y_v_amounts y_v_kinds y_v_shires y_v_terms E hQ v_count v_amounts v_kinds v_shires v_terms h
-- ChequeredCloth$Acts.addWrit
theorem dX0_addWrit_0 : decode cX0_addWrit 0 = .ok (.aload_n 0, 1) := by decide +kernel
theorem dX0_addWrit_1 : decode cX0_addWrit 1 = .ok (.iconst 1, 1) := by decide +kernel
theorem dX0_addWrit_2 : decode cX0_addWrit 2 = .ok (.iconst (-1), 1) := by decide +kernel
theorem dX0_addWrit_3 : decode cX0_addWrit 3 = .ok (.iload_n 1, 1) := by decide +kernel
theorem dX0_addWrit_4 : decode cX0_addWrit 4 = .ok (.iconst 0, 1) := by decide +kernel
theorem dX0_addWrit_5 : decode cX0_addWrit 5 = .ok (.invokevirtual 41, 3) := by decide +kernel
theorem dX0_addWrit_8 : decode cX0_addWrit 8 = .ok (.istore_n 3, 1) := by decide +kernel
theorem dX0_addWrit_9 : decode cX0_addWrit 9 = .ok (.iload_n 3, 1) := by decide +kernel
theorem dX0_addWrit_10 : decode cX0_addWrit 10 = .ok (.iconst (-1), 1) := by decide +kernel
theorem dX0_addWrit_11 : decode cX0_addWrit 11 = .ok (.if_icmp .eq 10, 3) := by decide +kernel
theorem dX0_addWrit_14 : decode cX0_addWrit 14 = .ok (.aload_n 0, 1) := by decide +kernel
theorem dX0_addWrit_15 : decode cX0_addWrit 15 = .ok (.getfield 29, 3) := by decide +kernel
theorem dX0_addWrit_18 : decode cX0_addWrit 18 = .ok (.iload_n 3, 1) := by decide +kernel
theorem dX0_addWrit_19 : decode cX0_addWrit 19 = .ok (.aload_n 2, 1) := by decide +kernel
theorem dX0_addWrit_20 : decode cX0_addWrit 20 = .ok (.aastore, 1) := by decide +kernel
theorem dX0_addWrit_21 : decode cX0_addWrit 21 = .ok (.iload_n 3, 1) := by decide +kernel
theorem dX0_addWrit_22 : decode cX0_addWrit 22 = .ok (.ireturn, 1) := by decide +kernel
theorem zy_X0_addWrit : zYv yX0_addWrit cX0_addWrit 4 (some .int) 2 := ⟨zw_857, zw_858, zw_7, zw_859, by decide, by decide, by decide⟩
theorem c_X0_addWrit_0 {C : zC} {I : Nat → Nat → Int32} {J : Nat → Nat → Int64} {Rr : Nat → Nat → Option Nat} {v_D : zD} (a1 : Int32) (a2 : (Option Nat)) (rr : Int32) (y_v_count : Int32) (y_v_amounts : (Nat → Int32)) (y_v_kinds : (Nat → Int32)) (y_v_shires : (Nat → Int32)) (y_v_terms : (Nat → Int32)) (y_v_writs : (Nat → Option Nat)) (E : zE C RX0 cX0_addWrit 4 (some .int) ({ frames := 2, cells := 0, slots := 0, locals := 44 } : Room)) (hQ : C.Q = zQi C ({ frames := 2, cells := 0, slots := 0, locals := 44 } : Room) rr ((va_up (va_up (va_up (va_up (va_up I 37 (va_up (I 37) 6 y_v_count)) 38 y_v_kinds) 39 y_v_shires) 40 y_v_terms) 41 y_v_amounts), J, (va_up Rr 43 y_v_writs), v_D)) (v_count : Int32) (v_amounts : (Nat → Int32)) (v_kinds : (Nat → Int32)) (v_shires : (Nat → Int32)) (v_terms : (Nat → Int32)) (v_writs : (Nat → Option Nat)) (h : pActs_addWrit a1 a2 v_D v_count v_amounts v_kinds v_shires v_terms v_writs = some (rr, y_v_count, y_v_amounts, y_v_kinds, y_v_shires, y_v_terms, y_v_writs)) : zB C (0, 0) 0 [(0, .ref (C.X.1 + 37)), (1, .int a1), (2, va_rf (zq C.X a2))] [] ((va_up (va_up (va_up (va_up (va_up I 37 (va_up (I 37) 6 v_count)) 38 v_kinds) 39 v_shires) 40 v_terms) 41 v_amounts), J, (va_up Rr 43 v_writs), v_D) := by
  refine zb_aload_n E dX0_addWrit_0 0 rfl rfl ?_
  refine zb_iconst E dX0_addWrit_1 (v := 1) rfl ?_
  refine zb_iconst E dX0_addWrit_2 (v := (-1)) rfl ?_
  refine zb_iload_n E dX0_addWrit_3 1 rfl rfl ?_
  refine zb_iconst E dX0_addWrit_4 (v := 0) rfl ?_
  obtain ⟨rc1, v_count_c1, v_amounts_c1, v_kinds_c1, v_shires_c1, v_terms_c1, hc_5, h⟩ := bd6_s h
  refine zb_cVi E [.int 1, .int (-1), .int a1, .int 0] 37 zy_X0_add zw_860 (by decide) (zF_37 _ _ _ _) rfl (c_X0_add (va_up (I 37) 6 v_count) ((zup_n (by decide : (37 : Nat) ≠ 41)).trans ((zup_n (by decide : (37 : Nat) ≠ 40)).trans ((zup_n (by decide : (37 : Nat) ≠ 39)).trans ((zup_n (by decide : (37 : Nat) ≠ 38)).trans zup_s)))) v_count (zcf (f := ((va_up (va_up (va_up (va_up (va_up I 37 (va_up (I 37) 6 v_count)) 38 v_kinds) 39 v_shires) 40 v_terms) 41 v_amounts) 37)) ((zup_n (by decide : (37 : Nat) ≠ 41)).trans ((zup_n (by decide : (37 : Nat) ≠ 40)).trans ((zup_n (by decide : (37 : Nat) ≠ 39)).trans ((zup_n (by decide : (37 : Nat) ≠ 38)).trans zup_s)))) rfl) v_amounts zup_s v_kinds ((zup_n (by decide : (38 : Nat) ≠ 41)).trans ((zup_n (by decide : (38 : Nat) ≠ 40)).trans ((zup_n (by decide : (38 : Nat) ≠ 39)).trans zup_s))) v_shires ((zup_n (by decide : (39 : Nat) ≠ 41)).trans ((zup_n (by decide : (39 : Nat) ≠ 40)).trans zup_s)) v_terms ((zup_n (by decide : (40 : Nat) ≠ 41)).trans zup_s) hc_5) (by decide) rfl rfl (by first | decide | simp [Value.category, zva_cat]) dX0_addWrit_5 (cs2 := (0, 0)) rfl ?_
  refine zb_S (S2 := ((va_up (va_up (va_up (va_up (va_up I 37 (va_up (I 37) 6 v_count_c1)) 38 v_kinds_c1) 39 v_shires_c1) 40 v_terms_c1) 41 v_amounts_c1), J, (va_up Rr 43 v_writs), v_D)) (zS_eq3 ((zcgF ((zcgF ((zcgF ((zcgF ((zcgV zn1).trans (zn5 (by decide : (41 : Nat) ≠ 37) (by decide : (40 : Nat) ≠ 37) (by decide : (39 : Nat) ≠ 37) (by decide : (38 : Nat) ≠ 37)))).trans (zn4 (by decide : (41 : Nat) ≠ 38) (by decide : (40 : Nat) ≠ 38) (by decide : (39 : Nat) ≠ 38)))).trans (zn3 (by decide : (41 : Nat) ≠ 39) (by decide : (40 : Nat) ≠ 39)))).trans (zn2 (by decide : (41 : Nat) ≠ 40)))).trans zn1) rfl rfl) ?_
  refine zb_istore_n E dX0_addWrit_8 rfl (by decide) (lv2 := [(3, .int rc1), (0, .ref (C.X.1 + 37)), (1, .int a1), (2, va_rf (zq C.X a2))]) (by generalize zq C.X a2 = z9; cases z9 <;> rfl) ?_
  refine zb_iload_n E dX0_addWrit_9 0 rfl rfl ?_
  refine zb_iconst E dX0_addWrit_10 (v := (-1)) rfl ?_
  refine zb_icmp_eq E dX0_addWrit_11 (tgt := 21) rfl (fun hc => ?_) (fun hc => ?_)
  · have h := if_t h hc
    refine zb_iload_n E dX0_addWrit_21 0 rfl rfl ?_
    obtain ⟨rfl, rfl, rfl, rfl, rfl, rfl, rfl⟩ := zinj7 h
    exact zb_iret E hQ rfl ⟨Nat.zero_le _, Nat.zero_le _⟩ dX0_addWrit_22
  · have h := if_f h hc
    refine zb_aload_n E dX0_addWrit_14 1 rfl rfl ?_
    refine zb_getX E 37 (by decide) (zF_37 C.X) rfl zin0 5 (by decide) zw_198 ((zup_n (by decide : (37 : Nat) ≠ 41)).trans ((zup_n (by decide : (37 : Nat) ≠ 40)).trans ((zup_n (by decide : (37 : Nat) ≠ 39)).trans ((zup_n (by decide : (37 : Nat) ≠ 38)).trans zup_s)))) rfl (v := .ref (C.X.1 + 43)) rfl dX0_addWrit_15 ?_
    refine zb_iload_n E dX0_addWrit_18 0 rfl rfl ?_
    refine zb_aload_nQ E dX0_addWrit_19 3 rfl rfl ?_
    obtain ⟨g2, h⟩ := gd_s h
    obtain ⟨g3, h⟩ := gd_s h
    refine zb_rastW E 43 (by decide) zF_43 (f := v_writs) (zup_s) (x := a2) g2 (ib_in g3) dX0_addWrit_20 (R2 := (va_up Rr 43 (va_up v_writs (ix rc1) a2))) zn1 ?_
    refine zb_iload_n E dX0_addWrit_21 0 rfl rfl ?_
    obtain ⟨rfl, rfl, rfl, rfl, rfl, rfl, rfl⟩ := zinj7 h
    exact zb_iret E hQ rfl ⟨Nat.zero_le _, Nat.zero_le _⟩ dX0_addWrit_22
theorem c_X0_addWrit {l : Launch} {X : zX} {I : Nat → Nat → Int32} {J : Nat → Nat → Int64} {Rr : Nat → Nat → Option Nat} {v_D : zD} {a1 : Int32} {a2 : (Option Nat)} (oI37 : Nat → Int32) (eoI37 : I 37 = oI37) (v_count : Int32) (e_v_count : I 37 6 = v_count) (v_amounts : (Nat → Int32)) (e_v_amounts : I 41 = v_amounts) (v_kinds : (Nat → Int32)) (e_v_kinds : I 38 = v_kinds) (v_shires : (Nat → Int32)) (e_v_shires : I 39 = v_shires) (v_terms : (Nat → Int32)) (e_v_terms : I 40 = v_terms) (v_writs : (Nat → Option Nat)) (e_v_writs : Rr 43 = v_writs) {rr : Int32} {y_v_count : Int32} {y_v_amounts : (Nat → Int32)} {y_v_kinds : (Nat → Int32)} {y_v_shires : (Nat → Int32)} {y_v_terms : (Nat → Int32)} {y_v_writs : (Nat → Option Nat)} (h : pActs_addWrit a1 a2 v_D v_count v_amounts v_kinds v_shires v_terms v_writs = some (rr, y_v_count, y_v_amounts, y_v_kinds, y_v_shires, y_v_terms, y_v_writs)) : zMi l yX0_addWrit cX0_addWrit 4 (some .int) ({ frames := 2, cells := 0, slots := 0, locals := 44 } : Room) X [.ref (X.1 + 37), .int a1, va_rf (zq X a2)] (I, J, Rr, v_D) rr ((va_up (va_up (va_up (va_up (va_up I 37 (va_up oI37 6 y_v_count)) 38 y_v_kinds) 39 y_v_shires) 40 y_v_terms) 41 y_v_amounts), J, (va_up Rr 43 y_v_writs), v_D) := by
  subst eoI37
  refine zMi.of (by decide) (by generalize zq X a2 = z9; cases z9 <;> exact Nat.le_of_ble_eq_true rfl) (fun C E hl hX hQ => ?_)
  subst hl
  subst hX
  refine zb_LS (lv2 := [(0, .ref (C.X.1 + 37)), (1, .int a1), (2, va_rf (zq C.X a2))]) (by generalize zq C.X a2 = z9; cases z9 <;> rfl) rfl ?_
  have eI0 : (va_up (va_up (va_up (va_up (va_up I 37 (va_up (I 37) 6 v_count)) 38 v_kinds) 39 v_shires) 40 v_terms) 41 v_amounts) = I := by rw [zup_idE e_v_count, zup_id, zup_idE e_v_kinds, zup_idE e_v_shires, zup_idE e_v_terms, zup_idE e_v_amounts]
  have eJ0 : J = J := rfl
  have eR0 : (va_up Rr 43 v_writs) = Rr := by rw [zup_idE e_v_writs]
  refine zb_S (S2 := ((va_up (va_up (va_up (va_up (va_up I 37 (va_up (I 37) 6 v_count)) 38 v_kinds) 39 v_shires) 40 v_terms) 41 v_amounts), J, (va_up Rr 43 v_writs), v_D)) (zS_eq3 eI0.symm eJ0.symm eR0.symm) ?_
  exact c_X0_addWrit_0 a1 a2 rr y_v_count y_v_amounts y_v_kinds y_v_shires y_v_terms y_v_writs E hQ v_count v_amounts v_kinds v_shires v_terms v_writs h
-- ChequeredCloth$Acts.size
theorem dX0_size_0 : decode cX0_size 0 = .ok (.aload_n 0, 1) := by decide +kernel
theorem dX0_size_1 : decode cX0_size 1 = .ok (.getfield 33, 3) := by decide +kernel
theorem dX0_size_4 : decode cX0_size 4 = .ok (.ireturn, 1) := by decide +kernel
theorem zy_X0_size : zYv yX0_size cX0_size 1 (some .int) 0 := ⟨zw_886, zw_887, zw_7, zw_888, by decide, by decide, by decide⟩
theorem c_X0_size_0 {C : zC} {I : Nat → Nat → Int32} {J : Nat → Nat → Int64} {Rr : Nat → Nat → Option Nat} {D : zD} (v_count : Int32) (e_v_count : I 37 6 = v_count) (rr : Int32) (E : zE C RX0 cX0_size 1 (some .int) ({ frames := 0, cells := 0, slots := 0, locals := 0 } : Room)) (hQ : C.Q = zQi C ({ frames := 0, cells := 0, slots := 0, locals := 0 } : Room) rr (I, J, Rr, D)) (h : pActs_size v_count = some rr) : zB C (0, 0) 0 [(0, .ref (C.X.1 + 37))] [] (I, J, Rr, D) := by
  refine zb_aload_n E dX0_size_0 0 rfl rfl ?_
  refine zb_get E 37 (by decide) (zF_37 C.X) rfl zin0 6 (by decide) zw_200 (v := .int v_count) (by exact congrArg (fun z => some (Value.int z)) e_v_count) dX0_size_1 ?_
  obtain rfl := zinj1 h
  exact zb_iret E hQ rfl ⟨Nat.zero_le _, Nat.zero_le _⟩ dX0_size_4
theorem c_X0_size {l : Launch} {X : zX} {I : Nat → Nat → Int32} {J : Nat → Nat → Int64} {Rr : Nat → Nat → Option Nat} {D : zD} (v_count : Int32) (e_v_count : I 37 6 = v_count) {rr : Int32} (h : pActs_size v_count = some rr) : zMi l yX0_size cX0_size 1 (some .int) ({ frames := 0, cells := 0, slots := 0, locals := 0 } : Room) X [.ref (X.1 + 37)] (I, J, Rr, D) rr (I, J, Rr, D) := by
  refine zMi.of (by decide) (Nat.le_of_ble_eq_true rfl) (fun C E hl hX hQ => ?_)
  subst hl
  subst hX
  have eI0 : I = I := rfl
  have eJ0 : J = J := rfl
  refine zb_S (S2 := (I, J, Rr, D)) (zS_eq eI0.symm eJ0.symm) ?_
  exact c_X0_size_0 v_count e_v_count rr E hQ h
-- ChequeredCloth$Acts.isAct
theorem dX0_isAct_0 : decode cX0_isAct 0 = .ok (.iload_n 1, 1) := by decide +kernel
theorem dX0_isAct_1 : decode cX0_isAct 1 = .ok (.iconst 1, 1) := by decide +kernel
theorem dX0_isAct_2 : decode cX0_isAct 2 = .ok (.if_icmp .lt 15, 3) := by decide +kernel
theorem dX0_isAct_5 : decode cX0_isAct 5 = .ok (.iload_n 1, 1) := by decide +kernel
theorem dX0_isAct_6 : decode cX0_isAct 6 = .ok (.aload_n 0, 1) := by decide +kernel
theorem dX0_isAct_7 : decode cX0_isAct 7 = .ok (.getfield 33, 3) := by decide +kernel
theorem dX0_isAct_10 : decode cX0_isAct 10 = .ok (.if_icmp .gt 7, 3) := by decide +kernel
theorem dX0_isAct_13 : decode cX0_isAct 13 = .ok (.iconst 1, 1) := by decide +kernel
theorem dX0_isAct_14 : decode cX0_isAct 14 = .ok (.goto 4, 3) := by decide +kernel
theorem dX0_isAct_17 : decode cX0_isAct 17 = .ok (.iconst 0, 1) := by decide +kernel
theorem dX0_isAct_18 : decode cX0_isAct 18 = .ok (.ireturn, 1) := by decide +kernel
theorem zy_X0_isAct : zYv yX0_isAct cX0_isAct 2 (some .boolean) 1 := ⟨zw_914, zw_915, zw_7, zw_916, by decide, by decide, by decide⟩
theorem c_X0_isAct_0 {C : zC} {I : Nat → Nat → Int32} {J : Nat → Nat → Int64} {Rr : Nat → Nat → Option Nat} {D : zD} (a1 : Int32) (v_count : Int32) (e_v_count : I 37 6 = v_count) (rr : Int32) (E : zE C RX0 cX0_isAct 2 (some .boolean) ({ frames := 0, cells := 0, slots := 0, locals := 0 } : Room)) (hQ : C.Q = zQi C ({ frames := 0, cells := 0, slots := 0, locals := 0 } : Room) rr (I, J, Rr, D)) (h : pActs_isAct a1 v_count = some rr) : zB C (0, 0) 0 [(0, .ref (C.X.1 + 37)), (1, .int a1)] [] (I, J, Rr, D) := by
  refine zb_iload_n E dX0_isAct_0 1 rfl rfl ?_
  refine zb_iconst E dX0_isAct_1 (v := 1) rfl ?_
  refine zb_icmp_lt E dX0_isAct_2 (tgt := 17) rfl (fun hc => ?_) (fun hc => ?_)
  · have h := if_t h hc
    refine zb_iconst E dX0_isAct_17 (v := 0) rfl ?_
    obtain rfl := zinj1 h
    exact zb_zret E hQ (ty := .boolean) rfl rfl ⟨Nat.zero_le _, Nat.zero_le _⟩ dX0_isAct_18
  · have h := if_f h hc
    refine zb_iload_n E dX0_isAct_5 1 rfl rfl ?_
    refine zb_aload_n E dX0_isAct_6 0 rfl rfl ?_
    refine zb_get E 37 (by decide) (zF_37 C.X) rfl zin0 6 (by decide) zw_200 (v := .int v_count) (by exact congrArg (fun z => some (Value.int z)) e_v_count) dX0_isAct_7 ?_
    refine zb_icmp_gt E dX0_isAct_10 (tgt := 17) rfl (fun hc => ?_) (fun hc => ?_)
    · have h := if_t h hc
      refine zb_iconst E dX0_isAct_17 (v := 0) rfl ?_
      obtain rfl := zinj1 h
      exact zb_zret E hQ (ty := .boolean) rfl rfl ⟨Nat.zero_le _, Nat.zero_le _⟩ dX0_isAct_18
    · have h := if_f h hc
      refine zb_iconst E dX0_isAct_13 (v := 1) rfl ?_
      refine zb_goto E dX0_isAct_14 (tgt := 18) rfl ?_
      obtain rfl := zinj1 h
      exact zb_zret E hQ (ty := .boolean) rfl rfl ⟨Nat.zero_le _, Nat.zero_le _⟩ dX0_isAct_18
theorem c_X0_isAct {l : Launch} {X : zX} {I : Nat → Nat → Int32} {J : Nat → Nat → Int64} {Rr : Nat → Nat → Option Nat} {D : zD} {a1 : Int32} (v_count : Int32) (e_v_count : I 37 6 = v_count) {rr : Int32} (h : pActs_isAct a1 v_count = some rr) : zMi l yX0_isAct cX0_isAct 2 (some .boolean) ({ frames := 0, cells := 0, slots := 0, locals := 0 } : Room) X [.ref (X.1 + 37), .int a1] (I, J, Rr, D) rr (I, J, Rr, D) := by
  refine zMi.of (by decide) (Nat.le_of_ble_eq_true rfl) (fun C E hl hX hQ => ?_)
  subst hl
  subst hX
  have eI0 : I = I := rfl
  have eJ0 : J = J := rfl
  refine zb_S (S2 := (I, J, Rr, D)) (zS_eq eI0.symm eJ0.symm) ?_
  exact c_X0_isAct_0 a1 v_count e_v_count rr E hQ h
-- ChequeredCloth$Acts.isKnown
theorem dX0_isKnown_0 : decode cX0_isKnown 0 = .ok (.aload_n 0, 1) := by decide +kernel
theorem dX0_isKnown_1 : decode cX0_isKnown 1 = .ok (.iload_n 1, 1) := by decide +kernel
theorem dX0_isKnown_2 : decode cX0_isKnown 2 = .ok (.invokevirtual 48, 3) := by decide +kernel
theorem dX0_isKnown_5 : decode cX0_isKnown 5 = .ok (.ifCond .eq 41, 3) := by decide +kernel
theorem dX0_isKnown_8 : decode cX0_isKnown 8 = .ok (.iload_n 1, 1) := by decide +kernel
theorem dX0_isKnown_9 : decode cX0_isKnown 9 = .ok (.iload_n 2, 1) := by decide +kernel
theorem dX0_isKnown_10 : decode cX0_isKnown 10 = .ok (.if_icmp .gt 36, 3) := by decide +kernel
theorem dX0_isKnown_13 : decode cX0_isKnown 13 = .ok (.aload_n 0, 1) := by decide +kernel
theorem dX0_isKnown_14 : decode cX0_isKnown 14 = .ok (.getfield 9, 3) := by decide +kernel
theorem dX0_isKnown_17 : decode cX0_isKnown 17 = .ok (.iload_n 1, 1) := by decide +kernel
theorem dX0_isKnown_18 : decode cX0_isKnown 18 = .ok (.iaload, 1) := by decide +kernel
theorem dX0_isKnown_19 : decode cX0_isKnown 19 = .ok (.iconst 5, 1) := by decide +kernel
theorem dX0_isKnown_20 : decode cX0_isKnown 20 = .ok (.if_icmp .eq 26, 3) := by decide +kernel
theorem dX0_isKnown_23 : decode cX0_isKnown 23 = .ok (.aload_n 0, 1) := by decide +kernel
theorem dX0_isKnown_24 : decode cX0_isKnown 24 = .ok (.getfield 24, 3) := by decide +kernel
theorem dX0_isKnown_27 : decode cX0_isKnown 27 = .ok (.iload_n 1, 1) := by decide +kernel
theorem dX0_isKnown_28 : decode cX0_isKnown 28 = .ok (.iaload, 1) := by decide +kernel
theorem dX0_isKnown_29 : decode cX0_isKnown 29 = .ok (.ifCond .eq 13, 3) := by decide +kernel
theorem dX0_isKnown_32 : decode cX0_isKnown 32 = .ok (.aload_n 0, 1) := by decide +kernel
theorem dX0_isKnown_33 : decode cX0_isKnown 33 = .ok (.getfield 24, 3) := by decide +kernel
theorem dX0_isKnown_36 : decode cX0_isKnown 36 = .ok (.iload_n 1, 1) := by decide +kernel
theorem dX0_isKnown_37 : decode cX0_isKnown 37 = .ok (.iaload, 1) := by decide +kernel
theorem dX0_isKnown_38 : decode cX0_isKnown 38 = .ok (.iload_n 2, 1) := by decide +kernel
theorem dX0_isKnown_39 : decode cX0_isKnown 39 = .ok (.if_icmp .le 7, 3) := by decide +kernel
theorem dX0_isKnown_42 : decode cX0_isKnown 42 = .ok (.iconst 1, 1) := by decide +kernel
theorem dX0_isKnown_43 : decode cX0_isKnown 43 = .ok (.goto 4, 3) := by decide +kernel
theorem dX0_isKnown_46 : decode cX0_isKnown 46 = .ok (.iconst 0, 1) := by decide +kernel
theorem dX0_isKnown_47 : decode cX0_isKnown 47 = .ok (.ireturn, 1) := by decide +kernel
theorem zy_X0_isKnown : zYv yX0_isKnown cX0_isKnown 3 (some .boolean) 2 := ⟨zw_910, zw_911, zw_7, zw_912, by decide, by decide, by decide⟩
theorem c_X0_isKnown_0 {C : zC} {I : Nat → Nat → Int32} {J : Nat → Nat → Int64} {Rr : Nat → Nat → Option Nat} {D : zD} (a1 : Int32) (a2 : Int32) (v_count : Int32) (e_v_count : I 37 6 = v_count) (v_kinds : (Nat → Int32)) (e_v_kinds : I 38 = v_kinds) (v_voidedBy : (Nat → Int32)) (e_v_voidedBy : I 42 = v_voidedBy) (rr : Int32) (E : zE C RX0 cX0_isKnown 3 (some .boolean) ({ frames := 1, cells := 0, slots := 0, locals := 21 } : Room)) (hQ : C.Q = zQi C ({ frames := 1, cells := 0, slots := 0, locals := 21 } : Room) rr (I, J, Rr, D)) (h : pActs_isKnown a1 a2 v_count v_kinds v_voidedBy = some rr) : zB C (0, 0) 0 [(0, .ref (C.X.1 + 37)), (1, .int a1), (2, .int a2)] [] (I, J, Rr, D) := by
  refine zb_aload_n E dX0_isKnown_0 0 rfl rfl ?_
  refine zb_iload_n E dX0_isKnown_1 1 rfl rfl ?_
  obtain ⟨rc1, hc_2, h⟩ := bd1_s h
  refine zb_cVi E [.int a1] 37 zy_X0_isAct zw_913 (by decide) (zF_37 _ _ _ _) rfl (c_X0_isAct v_count (by exact e_v_count) hc_2) (by decide) rfl rfl (by first | decide | simp [Value.category]) dX0_isKnown_2 (cs2 := (0, 0)) rfl ?_
  refine zb_if_eq E dX0_isKnown_5 (tgt := 46) rfl (fun hc => ?_) (fun hc => ?_)
  · have h := if_t h hc
    refine zb_iconst E dX0_isKnown_46 (v := 0) rfl ?_
    obtain rfl := zinj1 h
    exact zb_zret E hQ (ty := .boolean) rfl rfl ⟨Nat.zero_le _, Nat.zero_le _⟩ dX0_isKnown_47
  · have h := if_f h hc
    refine zb_iload_n E dX0_isKnown_8 1 rfl rfl ?_
    refine zb_iload_n E dX0_isKnown_9 2 rfl rfl ?_
    refine zb_icmp_gt E dX0_isKnown_10 (tgt := 46) rfl (fun hc => ?_) (fun hc => ?_)
    · have h := if_t h hc
      refine zb_iconst E dX0_isKnown_46 (v := 0) rfl ?_
      obtain rfl := zinj1 h
      exact zb_zret E hQ (ty := .boolean) rfl rfl ⟨Nat.zero_le _, Nat.zero_le _⟩ dX0_isKnown_47
    · have h := if_f h hc
      refine zb_aload_n E dX0_isKnown_13 0 rfl rfl ?_
      refine zb_get E 37 (by decide) (zF_37 C.X) rfl zin0 0 (by decide) zw_184 (v := .ref (C.X.1 + 38)) rfl dX0_isKnown_14 ?_
      refine zb_iload_n E dX0_isKnown_17 1 rfl rfl ?_
      obtain ⟨g2, h⟩ := gd_s h
      refine zb_iald E 38 (by decide) zF_38 (f := v_kinds) (by exact e_v_kinds) (ib_in g2) dX0_isKnown_18 ?_
      refine zb_iconst E dX0_isKnown_19 (v := 5) rfl ?_
      refine zb_icmp_eq E dX0_isKnown_20 (tgt := 46) rfl (fun hc => ?_) (fun hc => ?_)
      · have h := if_t h hc
        refine zb_iconst E dX0_isKnown_46 (v := 0) rfl ?_
        obtain rfl := zinj1 h
        exact zb_zret E hQ (ty := .boolean) rfl rfl ⟨Nat.zero_le _, Nat.zero_le _⟩ dX0_isKnown_47
      · have h := if_f h hc
        refine zb_aload_n E dX0_isKnown_23 0 rfl rfl ?_
        refine zb_get E 37 (by decide) (zF_37 C.X) rfl zin0 4 (by decide) zw_197 (v := .ref (C.X.1 + 42)) rfl dX0_isKnown_24 ?_
        refine zb_iload_n E dX0_isKnown_27 1 rfl rfl ?_
        refine zb_iald E 42 (by decide) zF_42 (f := v_voidedBy) (by exact e_v_voidedBy) (ib_in g2) dX0_isKnown_28 ?_
        refine zb_if_eq E dX0_isKnown_29 (tgt := 42) rfl (fun hc => ?_) (fun hc => ?_)
        · have h := if_t h hc
          refine zb_iconst E dX0_isKnown_42 (v := 1) rfl ?_
          refine zb_goto E dX0_isKnown_43 (tgt := 47) rfl ?_
          obtain rfl := zinj1 h
          exact zb_zret E hQ (ty := .boolean) rfl rfl ⟨Nat.zero_le _, Nat.zero_le _⟩ dX0_isKnown_47
        · have h := if_f h hc
          refine zb_aload_n E dX0_isKnown_32 0 rfl rfl ?_
          refine zb_get E 37 (by decide) (zF_37 C.X) rfl zin0 4 (by decide) zw_197 (v := .ref (C.X.1 + 42)) rfl dX0_isKnown_33 ?_
          refine zb_iload_n E dX0_isKnown_36 1 rfl rfl ?_
          refine zb_iald E 42 (by decide) zF_42 (f := v_voidedBy) (by exact e_v_voidedBy) (ib_in g2) dX0_isKnown_37 ?_
          refine zb_iload_n E dX0_isKnown_38 2 rfl rfl ?_
          refine zb_icmp_le E dX0_isKnown_39 (tgt := 46) rfl (fun hc => ?_) (fun hc => ?_)
          · have h := if_t h hc
            refine zb_iconst E dX0_isKnown_46 (v := 0) rfl ?_
            obtain rfl := zinj1 h
            exact zb_zret E hQ (ty := .boolean) rfl rfl ⟨Nat.zero_le _, Nat.zero_le _⟩ dX0_isKnown_47
          · have h := if_f h hc
            refine zb_iconst E dX0_isKnown_42 (v := 1) rfl ?_
            refine zb_goto E dX0_isKnown_43 (tgt := 47) rfl ?_
            obtain rfl := zinj1 h
            exact zb_zret E hQ (ty := .boolean) rfl rfl ⟨Nat.zero_le _, Nat.zero_le _⟩ dX0_isKnown_47
theorem c_X0_isKnown {l : Launch} {X : zX} {I : Nat → Nat → Int32} {J : Nat → Nat → Int64} {Rr : Nat → Nat → Option Nat} {D : zD} {a1 : Int32} {a2 : Int32} (v_count : Int32) (e_v_count : I 37 6 = v_count) (v_kinds : (Nat → Int32)) (e_v_kinds : I 38 = v_kinds) (v_voidedBy : (Nat → Int32)) (e_v_voidedBy : I 42 = v_voidedBy) {rr : Int32} (h : pActs_isKnown a1 a2 v_count v_kinds v_voidedBy = some rr) : zMi l yX0_isKnown cX0_isKnown 3 (some .boolean) ({ frames := 1, cells := 0, slots := 0, locals := 21 } : Room) X [.ref (X.1 + 37), .int a1, .int a2] (I, J, Rr, D) rr (I, J, Rr, D) := by
  refine zMi.of (by decide) (Nat.le_of_ble_eq_true rfl) (fun C E hl hX hQ => ?_)
  subst hl
  subst hX
  have eI0 : I = I := rfl
  have eJ0 : J = J := rfl
  refine zb_S (S2 := (I, J, Rr, D)) (zS_eq eI0.symm eJ0.symm) ?_
  exact c_X0_isKnown_0 a1 a2 v_count e_v_count v_kinds e_v_kinds v_voidedBy e_v_voidedBy rr E hQ h
-- ChequeredCloth$Acts.isPayment
theorem dX0_isPayment_0 : decode cX0_isPayment 0 = .ok (.aload_n 0, 1) := by decide +kernel
theorem dX0_isPayment_1 : decode cX0_isPayment 1 = .ok (.iload_n 1, 1) := by decide +kernel
theorem dX0_isPayment_2 : decode cX0_isPayment 2 = .ok (.invokevirtual 48, 3) := by decide +kernel
theorem dX0_isPayment_5 : decode cX0_isPayment 5 = .ok (.ifCond .eq 27, 3) := by decide +kernel
theorem dX0_isPayment_8 : decode cX0_isPayment 8 = .ok (.aload_n 0, 1) := by decide +kernel
theorem dX0_isPayment_9 : decode cX0_isPayment 9 = .ok (.getfield 9, 3) := by decide +kernel
theorem dX0_isPayment_12 : decode cX0_isPayment 12 = .ok (.iload_n 1, 1) := by decide +kernel
theorem dX0_isPayment_13 : decode cX0_isPayment 13 = .ok (.iaload, 1) := by decide +kernel
theorem dX0_isPayment_14 : decode cX0_isPayment 14 = .ok (.iconst 2, 1) := by decide +kernel
theorem dX0_isPayment_15 : decode cX0_isPayment 15 = .ok (.if_icmp .eq 13, 3) := by decide +kernel
theorem dX0_isPayment_18 : decode cX0_isPayment 18 = .ok (.aload_n 0, 1) := by decide +kernel
theorem dX0_isPayment_19 : decode cX0_isPayment 19 = .ok (.getfield 9, 3) := by decide +kernel
theorem dX0_isPayment_22 : decode cX0_isPayment 22 = .ok (.iload_n 1, 1) := by decide +kernel
theorem dX0_isPayment_23 : decode cX0_isPayment 23 = .ok (.iaload, 1) := by decide +kernel
theorem dX0_isPayment_24 : decode cX0_isPayment 24 = .ok (.iconst 3, 1) := by decide +kernel
theorem dX0_isPayment_25 : decode cX0_isPayment 25 = .ok (.if_icmp .ne 7, 3) := by decide +kernel
theorem dX0_isPayment_28 : decode cX0_isPayment 28 = .ok (.iconst 1, 1) := by decide +kernel
theorem dX0_isPayment_29 : decode cX0_isPayment 29 = .ok (.goto 4, 3) := by decide +kernel
theorem dX0_isPayment_32 : decode cX0_isPayment 32 = .ok (.iconst 0, 1) := by decide +kernel
theorem dX0_isPayment_33 : decode cX0_isPayment 33 = .ok (.ireturn, 1) := by decide +kernel
theorem zy_X0_isPayment : zYv yX0_isPayment cX0_isPayment 2 (some .boolean) 1 := ⟨zw_930, zw_931, zw_7, zw_932, by decide, by decide, by decide⟩
theorem c_X0_isPayment_0 {C : zC} {I : Nat → Nat → Int32} {J : Nat → Nat → Int64} {Rr : Nat → Nat → Option Nat} {D : zD} (a1 : Int32) (v_count : Int32) (e_v_count : I 37 6 = v_count) (v_kinds : (Nat → Int32)) (e_v_kinds : I 38 = v_kinds) (rr : Int32) (E : zE C RX0 cX0_isPayment 2 (some .boolean) ({ frames := 1, cells := 0, slots := 0, locals := 21 } : Room)) (hQ : C.Q = zQi C ({ frames := 1, cells := 0, slots := 0, locals := 21 } : Room) rr (I, J, Rr, D)) (h : pActs_isPayment a1 v_count v_kinds = some rr) : zB C (0, 0) 0 [(0, .ref (C.X.1 + 37)), (1, .int a1)] [] (I, J, Rr, D) := by
  refine zb_aload_n E dX0_isPayment_0 0 rfl rfl ?_
  refine zb_iload_n E dX0_isPayment_1 1 rfl rfl ?_
  obtain ⟨rc1, hc_2, h⟩ := bd1_s h
  refine zb_cVi E [.int a1] 37 zy_X0_isAct zw_913 (by decide) (zF_37 _ _ _ _) rfl (c_X0_isAct v_count (by exact e_v_count) hc_2) (by decide) rfl rfl (by first | decide | simp [Value.category]) dX0_isPayment_2 (cs2 := (0, 0)) rfl ?_
  refine zb_if_eq E dX0_isPayment_5 (tgt := 32) rfl (fun hc => ?_) (fun hc => ?_)
  · have h := if_t h hc
    refine zb_iconst E dX0_isPayment_32 (v := 0) rfl ?_
    obtain rfl := zinj1 h
    exact zb_zret E hQ (ty := .boolean) rfl rfl ⟨Nat.zero_le _, Nat.zero_le _⟩ dX0_isPayment_33
  · have h := if_f h hc
    refine zb_aload_n E dX0_isPayment_8 0 rfl rfl ?_
    refine zb_get E 37 (by decide) (zF_37 C.X) rfl zin0 0 (by decide) zw_184 (v := .ref (C.X.1 + 38)) rfl dX0_isPayment_9 ?_
    refine zb_iload_n E dX0_isPayment_12 1 rfl rfl ?_
    obtain ⟨g2, h⟩ := gd_s h
    refine zb_iald E 38 (by decide) zF_38 (f := v_kinds) (by exact e_v_kinds) (ib_in g2) dX0_isPayment_13 ?_
    refine zb_iconst E dX0_isPayment_14 (v := 2) rfl ?_
    refine zb_icmp_eq E dX0_isPayment_15 (tgt := 28) rfl (fun hc => ?_) (fun hc => ?_)
    · have h := if_t h hc
      refine zb_iconst E dX0_isPayment_28 (v := 1) rfl ?_
      refine zb_goto E dX0_isPayment_29 (tgt := 33) rfl ?_
      obtain rfl := zinj1 h
      exact zb_zret E hQ (ty := .boolean) rfl rfl ⟨Nat.zero_le _, Nat.zero_le _⟩ dX0_isPayment_33
    · have h := if_f h hc
      refine zb_aload_n E dX0_isPayment_18 0 rfl rfl ?_
      refine zb_get E 37 (by decide) (zF_37 C.X) rfl zin0 0 (by decide) zw_184 (v := .ref (C.X.1 + 38)) rfl dX0_isPayment_19 ?_
      refine zb_iload_n E dX0_isPayment_22 1 rfl rfl ?_
      refine zb_iald E 38 (by decide) zF_38 (f := v_kinds) (by exact e_v_kinds) (ib_in g2) dX0_isPayment_23 ?_
      refine zb_iconst E dX0_isPayment_24 (v := 3) rfl ?_
      refine zb_icmp_ne E dX0_isPayment_25 (tgt := 32) rfl (fun hc => ?_) (fun hc => ?_)
      · have h := if_f h hc
        refine zb_iconst E dX0_isPayment_32 (v := 0) rfl ?_
        obtain rfl := zinj1 h
        exact zb_zret E hQ (ty := .boolean) rfl rfl ⟨Nat.zero_le _, Nat.zero_le _⟩ dX0_isPayment_33
      · have h := if_t h hc
        refine zb_iconst E dX0_isPayment_28 (v := 1) rfl ?_
        refine zb_goto E dX0_isPayment_29 (tgt := 33) rfl ?_
        obtain rfl := zinj1 h
        exact zb_zret E hQ (ty := .boolean) rfl rfl ⟨Nat.zero_le _, Nat.zero_le _⟩ dX0_isPayment_33
theorem c_X0_isPayment {l : Launch} {X : zX} {I : Nat → Nat → Int32} {J : Nat → Nat → Int64} {Rr : Nat → Nat → Option Nat} {D : zD} {a1 : Int32} (v_count : Int32) (e_v_count : I 37 6 = v_count) (v_kinds : (Nat → Int32)) (e_v_kinds : I 38 = v_kinds) {rr : Int32} (h : pActs_isPayment a1 v_count v_kinds = some rr) : zMi l yX0_isPayment cX0_isPayment 2 (some .boolean) ({ frames := 1, cells := 0, slots := 0, locals := 21 } : Room) X [.ref (X.1 + 37), .int a1] (I, J, Rr, D) rr (I, J, Rr, D) := by
  refine zMi.of (by decide) (Nat.le_of_ble_eq_true rfl) (fun C E hl hX hQ => ?_)
  subst hl
  subst hX
  have eI0 : I = I := rfl
  have eJ0 : J = J := rfl
  refine zb_S (S2 := (I, J, Rr, D)) (zS_eq eI0.symm eJ0.symm) ?_
  exact c_X0_isPayment_0 a1 v_count e_v_count v_kinds e_v_kinds rr E hQ h
-- ChequeredCloth$Acts.addPayment
theorem dX0_addPayment_0 : decode cX0_addPayment 0 = .ok (.aload_n 0, 1) := by decide +kernel
theorem dX0_addPayment_1 : decode cX0_addPayment 1 = .ok (.getfield 45, 3) := by decide +kernel
theorem dX0_addPayment_4 : decode cX0_addPayment 4 = .ok (.bipush 60, 2) := by decide +kernel
theorem dX0_addPayment_6 : decode cX0_addPayment 6 = .ok (.if_icmp .ge 10, 3) := by decide +kernel
theorem dX0_addPayment_9 : decode cX0_addPayment 9 = .ok (.aload_n 0, 1) := by decide +kernel
theorem dX0_addPayment_10 : decode cX0_addPayment 10 = .ok (.invokevirtual 37, 3) := by decide +kernel
theorem dX0_addPayment_13 : decode cX0_addPayment 13 = .ok (.ifCond .eq 5, 3) := by decide +kernel
theorem dX0_addPayment_16 : decode cX0_addPayment 16 = .ok (.iconst (-1), 1) := by decide +kernel
theorem dX0_addPayment_17 : decode cX0_addPayment 17 = .ok (.ireturn, 1) := by decide +kernel
theorem dX0_addPayment_18 : decode cX0_addPayment 18 = .ok (.aload_n 0, 1) := by decide +kernel
theorem dX0_addPayment_19 : decode cX0_addPayment 19 = .ok (.dup, 1) := by decide +kernel
theorem dX0_addPayment_20 : decode cX0_addPayment 20 = .ok (.getfield 45, 3) := by decide +kernel
theorem dX0_addPayment_23 : decode cX0_addPayment 23 = .ok (.iconst 1, 1) := by decide +kernel
theorem dX0_addPayment_24 : decode cX0_addPayment 24 = .ok (.iadd, 1) := by decide +kernel
theorem dX0_addPayment_25 : decode cX0_addPayment 25 = .ok (.putfield 45, 3) := by decide +kernel
theorem dX0_addPayment_28 : decode cX0_addPayment 28 = .ok (.aload_n 0, 1) := by decide +kernel
theorem dX0_addPayment_29 : decode cX0_addPayment 29 = .ok (.iload_n 1, 1) := by decide +kernel
theorem dX0_addPayment_30 : decode cX0_addPayment 30 = .ok (.iload_n 2, 1) := by decide +kernel
theorem dX0_addPayment_31 : decode cX0_addPayment 31 = .ok (.iload_n 3, 1) := by decide +kernel
theorem dX0_addPayment_32 : decode cX0_addPayment 32 = .ok (.iload 4, 2) := by decide +kernel
theorem dX0_addPayment_34 : decode cX0_addPayment 34 = .ok (.invokevirtual 41, 3) := by decide +kernel
theorem dX0_addPayment_37 : decode cX0_addPayment 37 = .ok (.ireturn, 1) := by decide +kernel
theorem zy_X0_addPayment : zYv yX0_addPayment cX0_addPayment 5 (some .int) 4 := ⟨zw_950, zw_951, zw_7, zw_952, by decide, by decide, by decide⟩
theorem c_X0_addPayment_0 {C : zC} {I : Nat → Nat → Int32} {J : Nat → Nat → Int64} {Rr : Nat → Nat → Option Nat} {D : zD} (a1 : Int32) (a2 : Int32) (a3 : Int32) (a4 : Int32) (rr : Int32) (y_v_count : Int32) (y_v_payments : Int32) (y_v_amounts : (Nat → Int32)) (y_v_kinds : (Nat → Int32)) (y_v_shires : (Nat → Int32)) (y_v_terms : (Nat → Int32)) (E : zE C RX0 cX0_addPayment 5 (some .int) ({ frames := 2, cells := 0, slots := 0, locals := 44 } : Room)) (hQ : C.Q = zQi C ({ frames := 2, cells := 0, slots := 0, locals := 44 } : Room) rr ((va_up (va_up (va_up (va_up (va_up I 37 (va_up (va_up (I 37) 6 y_v_count) 7 y_v_payments)) 38 y_v_kinds) 39 y_v_shires) 40 y_v_terms) 41 y_v_amounts), J, Rr, D)) (v_count : Int32) (v_payments : Int32) (v_amounts : (Nat → Int32)) (v_kinds : (Nat → Int32)) (v_shires : (Nat → Int32)) (v_terms : (Nat → Int32)) (h : pActs_addPayment a1 a2 a3 a4 v_count v_payments v_amounts v_kinds v_shires v_terms = some (rr, y_v_count, y_v_payments, y_v_amounts, y_v_kinds, y_v_shires, y_v_terms)) : zB C (0, 0) 0 [(0, .ref (C.X.1 + 37)), (1, .int a1), (2, .int a2), (3, .int a3), (4, .int a4)] [] ((va_up (va_up (va_up (va_up (va_up I 37 (va_up (va_up (I 37) 6 v_count) 7 v_payments)) 38 v_kinds) 39 v_shires) 40 v_terms) 41 v_amounts), J, Rr, D) := by
  refine zb_aload_n E dX0_addPayment_0 0 rfl rfl ?_
  refine zb_get E 37 (by decide) (zF_37 C.X) rfl zin0 7 (by decide) zw_201 (v := .int v_payments) rfl dX0_addPayment_1 ?_
  refine zb_bipush E dX0_addPayment_4 (v := 60) rfl ?_
  refine zb_icmp_ge E dX0_addPayment_6 (tgt := 16) rfl (fun hc => ?_) (fun hc => ?_)
  · have h := if_t h hc
    refine zb_iconst E dX0_addPayment_16 (v := (-1)) rfl ?_
    obtain ⟨rfl, rfl, rfl, rfl, rfl, rfl, rfl⟩ := zinj7 h
    exact zb_iret E hQ rfl ⟨Nat.zero_le _, Nat.zero_le _⟩ dX0_addPayment_17
  · have h := if_f h hc
    refine zb_aload_n E dX0_addPayment_9 0 rfl rfl ?_
    obtain ⟨rc1, hc_10, h⟩ := bd1_s h
    refine zb_cVi E [] 37 zy_X0_isFull zw_864 (by decide) (zF_37 _ _ _ _) rfl (c_X0_isFull v_count rfl hc_10) (by decide) rfl rfl (by first | decide | simp [Value.category]) dX0_addPayment_10 (cs2 := (0, 0)) rfl ?_
    refine zb_if_eq E dX0_addPayment_13 (tgt := 18) rfl (fun hc => ?_) (fun hc => ?_)
    · have h := if_t h hc
      refine zb_aload_n E dX0_addPayment_18 0 rfl rfl ?_
      refine zb_dup E dX0_addPayment_19 rfl ?_
      refine zb_get E 37 (by decide) (zF_37 C.X) rfl zin0 7 (by decide) zw_201 (v := .int v_payments) rfl dX0_addPayment_20 ?_
      refine zb_iconst E dX0_addPayment_23 (v := 1) rfl ?_
      refine zb_iadd E dX0_addPayment_24 ?_
      refine zb_put E 37 (by decide) (zF_37 C.X) rfl zin0 7 (by decide) zw_201 tyX0 tyX0_ok nmX0 rfl rfl rfl (I2 := (va_up (va_up (va_up (va_up (va_up I 37 (va_up (va_up (I 37) 6 v_count) 7 (v_payments + 1))) 38 v_kinds) 39 v_shires) 40 v_terms) 41 v_amounts)) (J2 := J) ((zset0_7 C.X (va_up (va_up (I 37) 6 v_count) 7 v_payments) (J 37) (v_payments + 1)).trans (congrArg (fun g => zf0 C.X g (J 37)) zn1)) (by rw [zflen0]; decide) (fun j hj => ⟨zup_cg (zup_cg (zup_cg (zup_cg ((zup_n hj).trans (zup_n hj).symm)))), rfl⟩) dX0_addPayment_25 ?_
      refine zb_aload_n E dX0_addPayment_28 0 rfl rfl ?_
      refine zb_iload_n E dX0_addPayment_29 1 rfl rfl ?_
      refine zb_iload_n E dX0_addPayment_30 2 rfl rfl ?_
      refine zb_iload_n E dX0_addPayment_31 3 rfl rfl ?_
      refine zb_iload E dX0_addPayment_32 4 rfl ?_
      obtain ⟨rc2, v_count_c2, v_amounts_c2, v_kinds_c2, v_shires_c2, v_terms_c2, hc_34, h⟩ := bd6_s h
      refine zb_cVi E [.int a1, .int a2, .int a3, .int a4] 37 zy_X0_add zw_860 (by decide) (zF_37 _ _ _ _) rfl (c_X0_add (va_up (va_up (I 37) 6 v_count) 7 (v_payments + 1)) rfl v_count rfl v_amounts rfl v_kinds rfl v_shires rfl v_terms rfl hc_34) (by decide) rfl rfl (by first | decide | simp [Value.category]) dX0_addPayment_34 (cs2 := (0, 0)) rfl ?_
      refine zb_S (S2 := ((va_up (va_up (va_up (va_up (va_up I 37 (va_up (va_up (I 37) 6 v_count_c2) 7 (v_payments + 1))) 38 v_kinds_c2) 39 v_shires_c2) 40 v_terms_c2) 41 v_amounts_c2), J, Rr, D)) (zS_eq ((zcgF ((zcgF ((zcgF ((zcgF ((zcgV (zn2 (by decide : (7 : Nat) ≠ 6))).trans (zn5 (by decide : (41 : Nat) ≠ 37) (by decide : (40 : Nat) ≠ 37) (by decide : (39 : Nat) ≠ 37) (by decide : (38 : Nat) ≠ 37)))).trans (zn4 (by decide : (41 : Nat) ≠ 38) (by decide : (40 : Nat) ≠ 38) (by decide : (39 : Nat) ≠ 38)))).trans (zn3 (by decide : (41 : Nat) ≠ 39) (by decide : (40 : Nat) ≠ 39)))).trans (zn2 (by decide : (41 : Nat) ≠ 40)))).trans zn1) rfl) ?_
      obtain ⟨rfl, rfl, rfl, rfl, rfl, rfl, rfl⟩ := zinj7 h
      exact zb_iret E hQ rfl ⟨Nat.zero_le _, Nat.zero_le _⟩ dX0_addPayment_37
    · have h := if_f h hc
      refine zb_iconst E dX0_addPayment_16 (v := (-1)) rfl ?_
      obtain ⟨rfl, rfl, rfl, rfl, rfl, rfl, rfl⟩ := zinj7 h
      exact zb_iret E hQ rfl ⟨Nat.zero_le _, Nat.zero_le _⟩ dX0_addPayment_17
theorem c_X0_addPayment {l : Launch} {X : zX} {I : Nat → Nat → Int32} {J : Nat → Nat → Int64} {Rr : Nat → Nat → Option Nat} {D : zD} {a1 : Int32} {a2 : Int32} {a3 : Int32} {a4 : Int32} (oI37 : Nat → Int32) (eoI37 : I 37 = oI37) (v_count : Int32) (e_v_count : I 37 6 = v_count) (v_payments : Int32) (e_v_payments : I 37 7 = v_payments) (v_amounts : (Nat → Int32)) (e_v_amounts : I 41 = v_amounts) (v_kinds : (Nat → Int32)) (e_v_kinds : I 38 = v_kinds) (v_shires : (Nat → Int32)) (e_v_shires : I 39 = v_shires) (v_terms : (Nat → Int32)) (e_v_terms : I 40 = v_terms) {rr : Int32} {y_v_count : Int32} {y_v_payments : Int32} {y_v_amounts : (Nat → Int32)} {y_v_kinds : (Nat → Int32)} {y_v_shires : (Nat → Int32)} {y_v_terms : (Nat → Int32)} (h : pActs_addPayment a1 a2 a3 a4 v_count v_payments v_amounts v_kinds v_shires v_terms = some (rr, y_v_count, y_v_payments, y_v_amounts, y_v_kinds, y_v_shires, y_v_terms)) : zMi l yX0_addPayment cX0_addPayment 5 (some .int) ({ frames := 2, cells := 0, slots := 0, locals := 44 } : Room) X [.ref (X.1 + 37), .int a1, .int a2, .int a3, .int a4] (I, J, Rr, D) rr ((va_up (va_up (va_up (va_up (va_up I 37 (va_up (va_up oI37 6 y_v_count) 7 y_v_payments)) 38 y_v_kinds) 39 y_v_shires) 40 y_v_terms) 41 y_v_amounts), J, Rr, D) := by
  subst eoI37
  refine zMi.of (by decide) (Nat.le_of_ble_eq_true rfl) (fun C E hl hX hQ => ?_)
  subst hl
  subst hX
  have eI0 : (va_up (va_up (va_up (va_up (va_up I 37 (va_up (va_up (I 37) 6 v_count) 7 v_payments)) 38 v_kinds) 39 v_shires) 40 v_terms) 41 v_amounts) = I := by rw [zup_idE e_v_count, zup_idE e_v_payments, zup_id, zup_idE e_v_kinds, zup_idE e_v_shires, zup_idE e_v_terms, zup_idE e_v_amounts]
  have eJ0 : J = J := rfl
  refine zb_S (S2 := ((va_up (va_up (va_up (va_up (va_up I 37 (va_up (va_up (I 37) 6 v_count) 7 v_payments)) 38 v_kinds) 39 v_shires) 40 v_terms) 41 v_amounts), J, Rr, D)) (zS_eq eI0.symm eJ0.symm) ?_
  exact c_X0_addPayment_0 a1 a2 a3 a4 rr y_v_count y_v_payments y_v_amounts y_v_kinds y_v_shires y_v_terms E hQ v_count v_payments v_amounts v_kinds v_shires v_terms h
-- ChequeredCloth$Acts.addVoid
theorem dX0_addVoid_0 : decode cX0_addVoid 0 = .ok (.aload_n 0, 1) := by decide +kernel
theorem dX0_addVoid_1 : decode cX0_addVoid 1 = .ok (.iload_n 1, 1) := by decide +kernel
theorem dX0_addVoid_2 : decode cX0_addVoid 2 = .ok (.invokevirtual 48, 3) := by decide +kernel
theorem dX0_addVoid_5 : decode cX0_addVoid 5 = .ok (.ifCond .eq 29, 3) := by decide +kernel
theorem dX0_addVoid_8 : decode cX0_addVoid 8 = .ok (.aload_n 0, 1) := by decide +kernel
theorem dX0_addVoid_9 : decode cX0_addVoid 9 = .ok (.getfield 9, 3) := by decide +kernel
theorem dX0_addVoid_12 : decode cX0_addVoid 12 = .ok (.iload_n 1, 1) := by decide +kernel
theorem dX0_addVoid_13 : decode cX0_addVoid 13 = .ok (.iaload, 1) := by decide +kernel
theorem dX0_addVoid_14 : decode cX0_addVoid 14 = .ok (.iconst 5, 1) := by decide +kernel
theorem dX0_addVoid_15 : decode cX0_addVoid 15 = .ok (.if_icmp .eq 19, 3) := by decide +kernel
theorem dX0_addVoid_18 : decode cX0_addVoid 18 = .ok (.aload_n 0, 1) := by decide +kernel
theorem dX0_addVoid_19 : decode cX0_addVoid 19 = .ok (.getfield 24, 3) := by decide +kernel
theorem dX0_addVoid_22 : decode cX0_addVoid 22 = .ok (.iload_n 1, 1) := by decide +kernel
theorem dX0_addVoid_23 : decode cX0_addVoid 23 = .ok (.iaload, 1) := by decide +kernel
theorem dX0_addVoid_24 : decode cX0_addVoid 24 = .ok (.ifCond .ne 10, 3) := by decide +kernel
theorem dX0_addVoid_27 : decode cX0_addVoid 27 = .ok (.aload_n 0, 1) := by decide +kernel
theorem dX0_addVoid_28 : decode cX0_addVoid 28 = .ok (.invokevirtual 37, 3) := by decide +kernel
theorem dX0_addVoid_31 : decode cX0_addVoid 31 = .ok (.ifCond .eq 5, 3) := by decide +kernel
theorem dX0_addVoid_34 : decode cX0_addVoid 34 = .ok (.iconst (-1), 1) := by decide +kernel
theorem dX0_addVoid_35 : decode cX0_addVoid 35 = .ok (.ireturn, 1) := by decide +kernel
theorem dX0_addVoid_36 : decode cX0_addVoid 36 = .ok (.aload_n 0, 1) := by decide +kernel
theorem dX0_addVoid_37 : decode cX0_addVoid 37 = .ok (.getfield 24, 3) := by decide +kernel
theorem dX0_addVoid_40 : decode cX0_addVoid 40 = .ok (.iload_n 1, 1) := by decide +kernel
theorem dX0_addVoid_41 : decode cX0_addVoid 41 = .ok (.aload_n 0, 1) := by decide +kernel
theorem dX0_addVoid_42 : decode cX0_addVoid 42 = .ok (.iconst 5, 1) := by decide +kernel
theorem dX0_addVoid_43 : decode cX0_addVoid 43 = .ok (.aload_n 0, 1) := by decide +kernel
theorem dX0_addVoid_44 : decode cX0_addVoid 44 = .ok (.getfield 15, 3) := by decide +kernel
theorem dX0_addVoid_47 : decode cX0_addVoid 47 = .ok (.iload_n 1, 1) := by decide +kernel
theorem dX0_addVoid_48 : decode cX0_addVoid 48 = .ok (.iaload, 1) := by decide +kernel
theorem dX0_addVoid_49 : decode cX0_addVoid 49 = .ok (.aload_n 0, 1) := by decide +kernel
theorem dX0_addVoid_50 : decode cX0_addVoid 50 = .ok (.getfield 18, 3) := by decide +kernel
theorem dX0_addVoid_53 : decode cX0_addVoid 53 = .ok (.iload_n 1, 1) := by decide +kernel
theorem dX0_addVoid_54 : decode cX0_addVoid 54 = .ok (.iaload, 1) := by decide +kernel
theorem dX0_addVoid_55 : decode cX0_addVoid 55 = .ok (.iload_n 1, 1) := by decide +kernel
theorem dX0_addVoid_56 : decode cX0_addVoid 56 = .ok (.invokevirtual 41, 3) := by decide +kernel
theorem dX0_addVoid_59 : decode cX0_addVoid 59 = .ok (.iastore, 1) := by decide +kernel
theorem dX0_addVoid_60 : decode cX0_addVoid 60 = .ok (.aload_n 0, 1) := by decide +kernel
theorem dX0_addVoid_61 : decode cX0_addVoid 61 = .ok (.getfield 24, 3) := by decide +kernel
theorem dX0_addVoid_64 : decode cX0_addVoid 64 = .ok (.iload_n 1, 1) := by decide +kernel
theorem dX0_addVoid_65 : decode cX0_addVoid 65 = .ok (.iaload, 1) := by decide +kernel
theorem dX0_addVoid_66 : decode cX0_addVoid 66 = .ok (.ireturn, 1) := by decide +kernel
theorem zy_X0_addVoid : zYv yX0_addVoid cX0_addVoid 2 (some .int) 1 := ⟨zw_967, zw_968, zw_7, zw_969, by decide, by decide, by decide⟩
theorem c_X0_addVoid_0 {C : zC} {I : Nat → Nat → Int32} {J : Nat → Nat → Int64} {Rr : Nat → Nat → Option Nat} {D : zD} (a1 : Int32) (rr : Int32) (y_v_count : Int32) (y_v_amounts : (Nat → Int32)) (y_v_kinds : (Nat → Int32)) (y_v_shires : (Nat → Int32)) (y_v_terms : (Nat → Int32)) (y_v_voidedBy : (Nat → Int32)) (E : zE C RX0 cX0_addVoid 2 (some .int) ({ frames := 2, cells := 0, slots := 0, locals := 44 } : Room)) (hQ : C.Q = zQi C ({ frames := 2, cells := 0, slots := 0, locals := 44 } : Room) rr ((va_up (va_up (va_up (va_up (va_up (va_up I 37 (va_up (I 37) 6 y_v_count)) 38 y_v_kinds) 39 y_v_shires) 40 y_v_terms) 41 y_v_amounts) 42 y_v_voidedBy), J, Rr, D)) (v_count : Int32) (v_amounts : (Nat → Int32)) (v_kinds : (Nat → Int32)) (v_shires : (Nat → Int32)) (v_terms : (Nat → Int32)) (v_voidedBy : (Nat → Int32)) (h : pActs_addVoid a1 v_count v_amounts v_kinds v_shires v_terms v_voidedBy = some (rr, y_v_count, y_v_amounts, y_v_kinds, y_v_shires, y_v_terms, y_v_voidedBy)) : zB C (0, 0) 0 [(0, .ref (C.X.1 + 37)), (1, .int a1)] [] ((va_up (va_up (va_up (va_up (va_up (va_up I 37 (va_up (I 37) 6 v_count)) 38 v_kinds) 39 v_shires) 40 v_terms) 41 v_amounts) 42 v_voidedBy), J, Rr, D) := by
  refine zb_aload_n E dX0_addVoid_0 0 rfl rfl ?_
  refine zb_iload_n E dX0_addVoid_1 1 rfl rfl ?_
  obtain ⟨rc1, hc_2, h⟩ := bd1_s h
  refine zb_cVi E [.int a1] 37 zy_X0_isAct zw_913 (by decide) (zF_37 _ _ _ _) rfl (c_X0_isAct v_count rfl hc_2) (by decide) rfl rfl (by first | decide | simp [Value.category]) dX0_addVoid_2 (cs2 := (0, 0)) rfl ?_
  refine zb_if_eq E dX0_addVoid_5 (tgt := 34) rfl (fun hc => ?_) (fun hc => ?_)
  · have h := if_t h hc
    refine zb_iconst E dX0_addVoid_34 (v := (-1)) rfl ?_
    obtain ⟨rfl, rfl, rfl, rfl, rfl, rfl, rfl⟩ := zinj7 h
    exact zb_iret E hQ rfl ⟨Nat.zero_le _, Nat.zero_le _⟩ dX0_addVoid_35
  · have h := if_f h hc
    refine zb_aload_n E dX0_addVoid_8 0 rfl rfl ?_
    refine zb_get E 37 (by decide) (zF_37 C.X) rfl zin0 0 (by decide) zw_184 (v := .ref (C.X.1 + 38)) rfl dX0_addVoid_9 ?_
    refine zb_iload_n E dX0_addVoid_12 1 rfl rfl ?_
    obtain ⟨g2, h⟩ := gd_s h
    refine zb_iald E 38 (by decide) zF_38 (f := v_kinds) rfl (ib_in g2) dX0_addVoid_13 ?_
    refine zb_iconst E dX0_addVoid_14 (v := 5) rfl ?_
    refine zb_icmp_eq E dX0_addVoid_15 (tgt := 34) rfl (fun hc => ?_) (fun hc => ?_)
    · have h := if_t h hc
      refine zb_iconst E dX0_addVoid_34 (v := (-1)) rfl ?_
      obtain ⟨rfl, rfl, rfl, rfl, rfl, rfl, rfl⟩ := zinj7 h
      exact zb_iret E hQ rfl ⟨Nat.zero_le _, Nat.zero_le _⟩ dX0_addVoid_35
    · have h := if_f h hc
      refine zb_aload_n E dX0_addVoid_18 0 rfl rfl ?_
      refine zb_get E 37 (by decide) (zF_37 C.X) rfl zin0 4 (by decide) zw_197 (v := .ref (C.X.1 + 42)) rfl dX0_addVoid_19 ?_
      refine zb_iload_n E dX0_addVoid_22 1 rfl rfl ?_
      refine zb_iald E 42 (by decide) zF_42 (f := v_voidedBy) rfl (ib_in g2) dX0_addVoid_23 ?_
      refine zb_if_ne E dX0_addVoid_24 (tgt := 34) rfl (fun hc => ?_) (fun hc => ?_)
      · have h := if_f h hc
        refine zb_iconst E dX0_addVoid_34 (v := (-1)) rfl ?_
        obtain ⟨rfl, rfl, rfl, rfl, rfl, rfl, rfl⟩ := zinj7 h
        exact zb_iret E hQ rfl ⟨Nat.zero_le _, Nat.zero_le _⟩ dX0_addVoid_35
      · have h := if_t h hc
        refine zb_aload_n E dX0_addVoid_27 0 rfl rfl ?_
        obtain ⟨rc3, hc_28, h⟩ := bd1_s h
        refine zb_cVi E [] 37 zy_X0_isFull zw_864 (by decide) (zF_37 _ _ _ _) rfl (c_X0_isFull v_count rfl hc_28) (by decide) rfl rfl (by first | decide | simp [Value.category]) dX0_addVoid_28 (cs2 := (0, 0)) rfl ?_
        refine zb_if_eq E dX0_addVoid_31 (tgt := 36) rfl (fun hc => ?_) (fun hc => ?_)
        · have h := if_t h hc
          refine zb_aload_n E dX0_addVoid_36 0 rfl rfl ?_
          refine zb_get E 37 (by decide) (zF_37 C.X) rfl zin0 4 (by decide) zw_197 (v := .ref (C.X.1 + 42)) rfl dX0_addVoid_37 ?_
          refine zb_iload_n E dX0_addVoid_40 1 rfl rfl ?_
          refine zb_aload_n E dX0_addVoid_41 0 rfl rfl ?_
          refine zb_iconst E dX0_addVoid_42 (v := 5) rfl ?_
          refine zb_aload_n E dX0_addVoid_43 0 rfl rfl ?_
          refine zb_get E 37 (by decide) (zF_37 C.X) rfl zin0 1 (by decide) zw_188 (v := .ref (C.X.1 + 39)) rfl dX0_addVoid_44 ?_
          refine zb_iload_n E dX0_addVoid_47 1 rfl rfl ?_
          refine zb_iald E 39 (by decide) zF_39 (f := v_shires) rfl (ib_in g2) dX0_addVoid_48 ?_
          refine zb_aload_n E dX0_addVoid_49 0 rfl rfl ?_
          refine zb_get E 37 (by decide) (zF_37 C.X) rfl zin0 2 (by decide) zw_191 (v := .ref (C.X.1 + 40)) rfl dX0_addVoid_50 ?_
          refine zb_iload_n E dX0_addVoid_53 1 rfl rfl ?_
          refine zb_iald E 40 (by decide) zF_40 (f := v_terms) rfl (ib_in g2) dX0_addVoid_54 ?_
          refine zb_iload_n E dX0_addVoid_55 1 rfl rfl ?_
          obtain ⟨rc4, v_count_c4, v_amounts_c4, v_kinds_c4, v_shires_c4, v_terms_c4, hc_56, h⟩ := bd6_s h
          refine zb_cVi E [.int 5, .int (v_shires (ix a1)), .int (v_terms (ix a1)), .int a1] 37 zy_X0_add zw_860 (by decide) (zF_37 _ _ _ _) rfl (c_X0_add (va_up (I 37) 6 v_count) rfl v_count rfl v_amounts rfl v_kinds rfl v_shires rfl v_terms rfl hc_56) (by decide) rfl rfl (by first | decide | simp [Value.category]) dX0_addVoid_56 (cs2 := (0, 0)) rfl ?_
          refine zb_S (S2 := ((va_up (va_up (va_up (va_up (va_up (va_up I 37 (va_up (I 37) 6 v_count_c4)) 38 v_kinds_c4) 39 v_shires_c4) 40 v_terms_c4) 41 v_amounts_c4) 42 v_voidedBy), J, Rr, D)) (zS_eq ((zcgF ((zcgF ((zcgF ((zcgF ((zcgV zn1).trans (zn6 (by decide : (42 : Nat) ≠ 37) (by decide : (41 : Nat) ≠ 37) (by decide : (40 : Nat) ≠ 37) (by decide : (39 : Nat) ≠ 37) (by decide : (38 : Nat) ≠ 37)))).trans (zn5 (by decide : (42 : Nat) ≠ 38) (by decide : (41 : Nat) ≠ 38) (by decide : (40 : Nat) ≠ 38) (by decide : (39 : Nat) ≠ 38)))).trans (zn4 (by decide : (42 : Nat) ≠ 39) (by decide : (41 : Nat) ≠ 39) (by decide : (40 : Nat) ≠ 39)))).trans (zn3 (by decide : (42 : Nat) ≠ 40) (by decide : (41 : Nat) ≠ 40)))).trans (zn2 (by decide : (42 : Nat) ≠ 41))) rfl) ?_
          refine zb_iast E 42 (by decide) zF_42 (f := v_voidedBy) rfl (ib_in g2) dX0_addVoid_59 (I2 := (va_up (va_up (va_up (va_up (va_up (va_up I 37 (va_up (I 37) 6 v_count_c4)) 38 v_kinds_c4) 39 v_shires_c4) 40 v_terms_c4) 41 v_amounts_c4) 42 (upd v_voidedBy (ix a1) rc4))) zn1 ?_
          refine zb_aload_n E dX0_addVoid_60 0 rfl rfl ?_
          refine zb_get E 37 (by decide) (zF_37 C.X) rfl zin0 4 (by decide) zw_197 (v := .ref (C.X.1 + 42)) rfl dX0_addVoid_61 ?_
          refine zb_iload_n E dX0_addVoid_64 1 rfl rfl ?_
          refine zb_iald E 42 (by decide) zF_42 (f := (upd v_voidedBy (ix a1) rc4)) rfl (ib_in g2) dX0_addVoid_65 ?_
          obtain ⟨rfl, rfl, rfl, rfl, rfl, rfl, rfl⟩ := zinj7 h
          exact zb_iret E hQ rfl ⟨Nat.zero_le _, Nat.zero_le _⟩ dX0_addVoid_66
        · have h := if_f h hc
          refine zb_iconst E dX0_addVoid_34 (v := (-1)) rfl ?_
          obtain ⟨rfl, rfl, rfl, rfl, rfl, rfl, rfl⟩ := zinj7 h
          exact zb_iret E hQ rfl ⟨Nat.zero_le _, Nat.zero_le _⟩ dX0_addVoid_35
theorem c_X0_addVoid {l : Launch} {X : zX} {I : Nat → Nat → Int32} {J : Nat → Nat → Int64} {Rr : Nat → Nat → Option Nat} {D : zD} {a1 : Int32} (oI37 : Nat → Int32) (eoI37 : I 37 = oI37) (v_count : Int32) (e_v_count : I 37 6 = v_count) (v_amounts : (Nat → Int32)) (e_v_amounts : I 41 = v_amounts) (v_kinds : (Nat → Int32)) (e_v_kinds : I 38 = v_kinds) (v_shires : (Nat → Int32)) (e_v_shires : I 39 = v_shires) (v_terms : (Nat → Int32)) (e_v_terms : I 40 = v_terms) (v_voidedBy : (Nat → Int32)) (e_v_voidedBy : I 42 = v_voidedBy) {rr : Int32} {y_v_count : Int32} {y_v_amounts : (Nat → Int32)} {y_v_kinds : (Nat → Int32)} {y_v_shires : (Nat → Int32)} {y_v_terms : (Nat → Int32)} {y_v_voidedBy : (Nat → Int32)} (h : pActs_addVoid a1 v_count v_amounts v_kinds v_shires v_terms v_voidedBy = some (rr, y_v_count, y_v_amounts, y_v_kinds, y_v_shires, y_v_terms, y_v_voidedBy)) : zMi l yX0_addVoid cX0_addVoid 2 (some .int) ({ frames := 2, cells := 0, slots := 0, locals := 44 } : Room) X [.ref (X.1 + 37), .int a1] (I, J, Rr, D) rr ((va_up (va_up (va_up (va_up (va_up (va_up I 37 (va_up oI37 6 y_v_count)) 38 y_v_kinds) 39 y_v_shires) 40 y_v_terms) 41 y_v_amounts) 42 y_v_voidedBy), J, Rr, D) := by
  subst eoI37
  refine zMi.of (by decide) (Nat.le_of_ble_eq_true rfl) (fun C E hl hX hQ => ?_)
  subst hl
  subst hX
  have eI0 : (va_up (va_up (va_up (va_up (va_up (va_up I 37 (va_up (I 37) 6 v_count)) 38 v_kinds) 39 v_shires) 40 v_terms) 41 v_amounts) 42 v_voidedBy) = I := by rw [zup_idE e_v_count, zup_id, zup_idE e_v_kinds, zup_idE e_v_shires, zup_idE e_v_terms, zup_idE e_v_amounts, zup_idE e_v_voidedBy]
  have eJ0 : J = J := rfl
  refine zb_S (S2 := ((va_up (va_up (va_up (va_up (va_up (va_up I 37 (va_up (I 37) 6 v_count)) 38 v_kinds) 39 v_shires) 40 v_terms) 41 v_amounts) 42 v_voidedBy), J, Rr, D)) (zS_eq eI0.symm eJ0.symm) ?_
  exact c_X0_addVoid_0 a1 rr y_v_count y_v_amounts y_v_kinds y_v_shires y_v_terms y_v_voidedBy E hQ v_count v_amounts v_kinds v_shires v_terms v_voidedBy h
-- ChequeredCloth$Acts.canTouch
theorem dX0_canTouch_0 : decode cX0_canTouch 0 = .ok (.aload_n 0, 1) := by decide +kernel
theorem dX0_canTouch_1 : decode cX0_canTouch 1 = .ok (.iload_n 1, 1) := by decide +kernel
theorem dX0_canTouch_2 : decode cX0_canTouch 2 = .ok (.invokevirtual 48, 3) := by decide +kernel
theorem dX0_canTouch_5 : decode cX0_canTouch 5 = .ok (.ifCond .eq 37, 3) := by decide +kernel
theorem dX0_canTouch_8 : decode cX0_canTouch 8 = .ok (.aload_n 0, 1) := by decide +kernel
theorem dX0_canTouch_9 : decode cX0_canTouch 9 = .ok (.getfield 18, 3) := by decide +kernel
theorem dX0_canTouch_12 : decode cX0_canTouch 12 = .ok (.iload_n 1, 1) := by decide +kernel
theorem dX0_canTouch_13 : decode cX0_canTouch 13 = .ok (.iaload, 1) := by decide +kernel
theorem dX0_canTouch_14 : decode cX0_canTouch 14 = .ok (.iload_n 3, 1) := by decide +kernel
theorem dX0_canTouch_15 : decode cX0_canTouch 15 = .ok (.if_icmp .gt 27, 3) := by decide +kernel
theorem dX0_canTouch_18 : decode cX0_canTouch 18 = .ok (.aload_n 0, 1) := by decide +kernel
theorem dX0_canTouch_19 : decode cX0_canTouch 19 = .ok (.getfield 15, 3) := by decide +kernel
theorem dX0_canTouch_22 : decode cX0_canTouch 22 = .ok (.iload_n 1, 1) := by decide +kernel
theorem dX0_canTouch_23 : decode cX0_canTouch 23 = .ok (.iaload, 1) := by decide +kernel
theorem dX0_canTouch_24 : decode cX0_canTouch 24 = .ok (.iconst (-1), 1) := by decide +kernel
theorem dX0_canTouch_25 : decode cX0_canTouch 25 = .ok (.if_icmp .eq 13, 3) := by decide +kernel
theorem dX0_canTouch_28 : decode cX0_canTouch 28 = .ok (.aload_n 0, 1) := by decide +kernel
theorem dX0_canTouch_29 : decode cX0_canTouch 29 = .ok (.getfield 15, 3) := by decide +kernel
theorem dX0_canTouch_32 : decode cX0_canTouch 32 = .ok (.iload_n 1, 1) := by decide +kernel
theorem dX0_canTouch_33 : decode cX0_canTouch 33 = .ok (.iaload, 1) := by decide +kernel
theorem dX0_canTouch_34 : decode cX0_canTouch 34 = .ok (.iload_n 2, 1) := by decide +kernel
theorem dX0_canTouch_35 : decode cX0_canTouch 35 = .ok (.if_icmp .ne 7, 3) := by decide +kernel
theorem dX0_canTouch_38 : decode cX0_canTouch 38 = .ok (.iconst 1, 1) := by decide +kernel
theorem dX0_canTouch_39 : decode cX0_canTouch 39 = .ok (.goto 4, 3) := by decide +kernel
theorem dX0_canTouch_42 : decode cX0_canTouch 42 = .ok (.iconst 0, 1) := by decide +kernel
theorem dX0_canTouch_43 : decode cX0_canTouch 43 = .ok (.ireturn, 1) := by decide +kernel
theorem zy_X0_canTouch : zYv yX0_canTouch cX0_canTouch 4 (some .boolean) 3 := ⟨zw_1100, zw_1101, zw_7, zw_1102, by decide, by decide, by decide⟩
theorem c_X0_canTouch_0 {C : zC} {I : Nat → Nat → Int32} {J : Nat → Nat → Int64} {Rr : Nat → Nat → Option Nat} {D : zD} (a1 : Int32) (a2 : Int32) (a3 : Int32) (v_count : Int32) (e_v_count : I 37 6 = v_count) (v_shires : (Nat → Int32)) (e_v_shires : I 39 = v_shires) (v_terms : (Nat → Int32)) (e_v_terms : I 40 = v_terms) (rr : Int32) (E : zE C RX0 cX0_canTouch 4 (some .boolean) ({ frames := 1, cells := 0, slots := 0, locals := 21 } : Room)) (hQ : C.Q = zQi C ({ frames := 1, cells := 0, slots := 0, locals := 21 } : Room) rr (I, J, Rr, D)) (h : pActs_canTouch a1 a2 a3 v_count v_shires v_terms = some rr) : zB C (0, 0) 0 [(0, .ref (C.X.1 + 37)), (1, .int a1), (2, .int a2), (3, .int a3)] [] (I, J, Rr, D) := by
  refine zb_aload_n E dX0_canTouch_0 0 rfl rfl ?_
  refine zb_iload_n E dX0_canTouch_1 1 rfl rfl ?_
  obtain ⟨rc1, hc_2, h⟩ := bd1_s h
  refine zb_cVi E [.int a1] 37 zy_X0_isAct zw_913 (by decide) (zF_37 _ _ _ _) rfl (c_X0_isAct v_count (by exact e_v_count) hc_2) (by decide) rfl rfl (by first | decide | simp [Value.category]) dX0_canTouch_2 (cs2 := (0, 0)) rfl ?_
  refine zb_if_eq E dX0_canTouch_5 (tgt := 42) rfl (fun hc => ?_) (fun hc => ?_)
  · have h := if_t h hc
    refine zb_iconst E dX0_canTouch_42 (v := 0) rfl ?_
    obtain rfl := zinj1 h
    exact zb_zret E hQ (ty := .boolean) rfl rfl ⟨Nat.zero_le _, Nat.zero_le _⟩ dX0_canTouch_43
  · have h := if_f h hc
    refine zb_aload_n E dX0_canTouch_8 0 rfl rfl ?_
    refine zb_get E 37 (by decide) (zF_37 C.X) rfl zin0 2 (by decide) zw_191 (v := .ref (C.X.1 + 40)) rfl dX0_canTouch_9 ?_
    refine zb_iload_n E dX0_canTouch_12 1 rfl rfl ?_
    obtain ⟨g2, h⟩ := gd_s h
    refine zb_iald E 40 (by decide) zF_40 (f := v_terms) (by exact e_v_terms) (ib_in g2) dX0_canTouch_13 ?_
    refine zb_iload_n E dX0_canTouch_14 3 rfl rfl ?_
    refine zb_icmp_gt E dX0_canTouch_15 (tgt := 42) rfl (fun hc => ?_) (fun hc => ?_)
    · have h := if_t h hc
      refine zb_iconst E dX0_canTouch_42 (v := 0) rfl ?_
      obtain rfl := zinj1 h
      exact zb_zret E hQ (ty := .boolean) rfl rfl ⟨Nat.zero_le _, Nat.zero_le _⟩ dX0_canTouch_43
    · have h := if_f h hc
      refine zb_aload_n E dX0_canTouch_18 0 rfl rfl ?_
      refine zb_get E 37 (by decide) (zF_37 C.X) rfl zin0 1 (by decide) zw_188 (v := .ref (C.X.1 + 39)) rfl dX0_canTouch_19 ?_
      refine zb_iload_n E dX0_canTouch_22 1 rfl rfl ?_
      refine zb_iald E 39 (by decide) zF_39 (f := v_shires) (by exact e_v_shires) (ib_in g2) dX0_canTouch_23 ?_
      refine zb_iconst E dX0_canTouch_24 (v := (-1)) rfl ?_
      refine zb_icmp_eq E dX0_canTouch_25 (tgt := 38) rfl (fun hc => ?_) (fun hc => ?_)
      · have h := if_t h hc
        refine zb_iconst E dX0_canTouch_38 (v := 1) rfl ?_
        refine zb_goto E dX0_canTouch_39 (tgt := 43) rfl ?_
        obtain rfl := zinj1 h
        exact zb_zret E hQ (ty := .boolean) rfl rfl ⟨Nat.zero_le _, Nat.zero_le _⟩ dX0_canTouch_43
      · have h := if_f h hc
        refine zb_aload_n E dX0_canTouch_28 0 rfl rfl ?_
        refine zb_get E 37 (by decide) (zF_37 C.X) rfl zin0 1 (by decide) zw_188 (v := .ref (C.X.1 + 39)) rfl dX0_canTouch_29 ?_
        refine zb_iload_n E dX0_canTouch_32 1 rfl rfl ?_
        refine zb_iald E 39 (by decide) zF_39 (f := v_shires) (by exact e_v_shires) (ib_in g2) dX0_canTouch_33 ?_
        refine zb_iload_n E dX0_canTouch_34 2 rfl rfl ?_
        refine zb_icmp_ne E dX0_canTouch_35 (tgt := 42) rfl (fun hc => ?_) (fun hc => ?_)
        · have h := if_f h hc
          refine zb_iconst E dX0_canTouch_42 (v := 0) rfl ?_
          obtain rfl := zinj1 h
          exact zb_zret E hQ (ty := .boolean) rfl rfl ⟨Nat.zero_le _, Nat.zero_le _⟩ dX0_canTouch_43
        · have h := if_t h hc
          refine zb_iconst E dX0_canTouch_38 (v := 1) rfl ?_
          refine zb_goto E dX0_canTouch_39 (tgt := 43) rfl ?_
          obtain rfl := zinj1 h
          exact zb_zret E hQ (ty := .boolean) rfl rfl ⟨Nat.zero_le _, Nat.zero_le _⟩ dX0_canTouch_43
theorem c_X0_canTouch {l : Launch} {X : zX} {I : Nat → Nat → Int32} {J : Nat → Nat → Int64} {Rr : Nat → Nat → Option Nat} {D : zD} {a1 : Int32} {a2 : Int32} {a3 : Int32} (v_count : Int32) (e_v_count : I 37 6 = v_count) (v_shires : (Nat → Int32)) (e_v_shires : I 39 = v_shires) (v_terms : (Nat → Int32)) (e_v_terms : I 40 = v_terms) {rr : Int32} (h : pActs_canTouch a1 a2 a3 v_count v_shires v_terms = some rr) : zMi l yX0_canTouch cX0_canTouch 4 (some .boolean) ({ frames := 1, cells := 0, slots := 0, locals := 21 } : Room) X [.ref (X.1 + 37), .int a1, .int a2, .int a3] (I, J, Rr, D) rr (I, J, Rr, D) := by
  refine zMi.of (by decide) (Nat.le_of_ble_eq_true rfl) (fun C E hl hX hQ => ?_)
  subst hl
  subst hX
  have eI0 : I = I := rfl
  have eJ0 : J = J := rfl
  refine zb_S (S2 := (I, J, Rr, D)) (zS_eq eI0.symm eJ0.symm) ?_
  exact c_X0_canTouch_0 a1 a2 a3 v_count e_v_count v_shires e_v_shires v_terms e_v_terms rr E hQ h
