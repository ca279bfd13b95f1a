set_option maxHeartbeats 4000000
set_option maxRecDepth 100000
-- ChequeredCloth$Matcher.begin
theorem dX6_begin_0 : decode cX6_begin 0 = .ok (.iconst 0, 1) := by decide +kernel
theorem dX6_begin_1 : decode cX6_begin 1 = .ok (.istore_n 1, 1) := by decide +kernel
theorem dX6_begin_2 : decode cX6_begin 2 = .ok (.iload_n 1, 1) := by decide +kernel
theorem dX6_begin_3 : decode cX6_begin 3 = .ok (.bipush 10, 2) := by decide +kernel
theorem dX6_begin_5 : decode cX6_begin 5 = .ok (.if_icmp .gt 19, 3) := by decide +kernel
theorem dX6_begin_8 : decode cX6_begin 8 = .ok (.aload_n 0, 1) := by decide +kernel
theorem dX6_begin_9 : decode cX6_begin 9 = .ok (.getfield 13, 3) := by decide +kernel
theorem dX6_begin_12 : decode cX6_begin 12 = .ok (.iload_n 1, 1) := by decide +kernel
theorem dX6_begin_13 : decode cX6_begin 13 = .ok (.aaload, 1) := by decide +kernel
theorem dX6_begin_14 : decode cX6_begin 14 = .ok (.lconst 0, 1) := by decide +kernel
theorem dX6_begin_15 : decode cX6_begin 15 = .ok (.invokestatic 40, 3) := by decide +kernel
theorem dX6_begin_18 : decode cX6_begin 18 = .ok (.iinc 1 1, 3) := by decide +kernel
theorem dX6_begin_21 : decode cX6_begin 21 = .ok (.goto (-19), 3) := by decide +kernel
theorem dX6_begin_24 : decode cX6_begin 24 = .ok (.aload_n 0, 1) := by decide +kernel
theorem dX6_begin_25 : decode cX6_begin 25 = .ok (.getfield 16, 3) := by decide +kernel
theorem dX6_begin_28 : decode cX6_begin 28 = .ok (.lconst 0, 1) := by decide +kernel
theorem dX6_begin_29 : decode cX6_begin 29 = .ok (.invokestatic 40, 3) := by decide +kernel
theorem dX6_begin_32 : decode cX6_begin 32 = .ok (.aload_n 0, 1) := by decide +kernel
theorem dX6_begin_33 : decode cX6_begin 33 = .ok (.getfield 20, 3) := by decide +kernel
theorem dX6_begin_36 : decode cX6_begin 36 = .ok (.lconst 0, 1) := by decide +kernel
theorem dX6_begin_37 : decode cX6_begin 37 = .ok (.invokestatic 40, 3) := by decide +kernel
theorem dX6_begin_40 : decode cX6_begin 40 = .ok (.aload_n 0, 1) := by decide +kernel
theorem dX6_begin_41 : decode cX6_begin 41 = .ok (.getfield 26, 3) := by decide +kernel
theorem dX6_begin_44 : decode cX6_begin 44 = .ok (.iconst 0, 1) := by decide +kernel
theorem dX6_begin_45 : decode cX6_begin 45 = .ok (.invokestatic 46, 3) := by decide +kernel
theorem dX6_begin_48 : decode cX6_begin 48 = .ok (.return_, 1) := by decide +kernel
theorem zy_X6_begin : zYv yX6_begin cX6_begin 2 none 0 := ⟨zw_567, zw_568, zw_4, zw_569, by decide, by decide, by decide⟩
theorem c_X6_begin_b2 {C : zC} {I : Nat → Nat → Int32} {J : Nat → Nat → Int64} {Rr : Nat → Nat → Option Nat} {D : zD} (N : Nat) (y_v_columnPrices : (Nat → Int64)) (y_v_costs : (Nat → Nat → Int64)) (y_v_rowOf : (Nat → Int32)) (y_v_rowPrices : (Nat → Int64)) (E : zE C RX6 cX6_begin 2 none ({ frames := 1, cells := 0, slots := 0, locals := 24 } : Room)) (hQ : C.Q = zQv C ({ frames := 1, cells := 0, slots := 0, locals := 24 } : Room) ((va_up I 29 y_v_rowOf), (va_up (va_up (zg J y_v_costs) 26 y_v_rowPrices) 27 y_v_columnPrices), Rr, D)) (v_columnPrices : (Nat → Int64)) (v_rowOf : (Nat → Int32)) (v_rowPrices : (Nat → Int64)) (k24 : (Nat → Nat → Int64) → Option R_pMatcher_begin) (hk24 : ∀ (v_costs : (Nat → Nat → Int64)), k24 v_costs = some (y_v_columnPrices, y_v_costs, y_v_rowOf, y_v_rowPrices) → zB C (0, 0) 24 [(0, .ref (C.X.1 + 13))] [] ((va_up I 29 v_rowOf), (va_up (va_up (zg J v_costs) 26 v_rowPrices) 27 v_columnPrices), Rr, D)) : ∀ (n9 : Nat) (x1 : Int32) (v_costs : (Nat → Nat → Int64)), pMatcher_begin_b2 N v_columnPrices v_rowOf v_rowPrices k24 n9 x1 v_costs = some (y_v_columnPrices, y_v_costs, y_v_rowOf, y_v_rowPrices) → zB C (0, 0) 2 [(0, .ref (C.X.1 + 13)), (1, .int x1)] [] ((va_up I 29 v_rowOf), (va_up (va_up (zg J v_costs) 26 v_rowPrices) 27 v_columnPrices), Rr, D) := by
  refine zlp2_ind (P := fun (x1 : Int32) (v_costs : (Nat → Nat → Int64)) => zB C (0, 0) 2 [(0, .ref (C.X.1 + 13)), (1, .int x1)] [] ((va_up I 29 v_rowOf), (va_up (va_up (zg J v_costs) 26 v_rowPrices) 27 v_columnPrices), Rr, D)) (fun self ih => ?_)
  intro x1 v_costs h
  refine zb_iload_n E dX6_begin_2 1 rfl rfl ?_
  refine zb_bipush E dX6_begin_3 (v := 10) rfl ?_
  refine zb_icmp_gt E dX6_begin_5 (tgt := 24) rfl (fun hc => ?_) (fun hc => ?_)
  · have h := if_t h hc
    refine zb_sub [0] rfl ?_
    exact hk24 v_costs h
  · have h := if_f h hc
    refine zb_aload_n E dX6_begin_8 0 rfl rfl ?_
    refine zb_get E 13 (by decide) (zF_13 C.X) rfl zin6 0 (by decide) zw_60 (v := .ref (C.X.1 + 14)) rfl dX6_begin_9 ?_
    refine zb_iload_n E dX6_begin_12 1 rfl rfl ?_
    obtain ⟨g1, h⟩ := gd_s h
    refine zb_aaldg E (ib_in g1) dX6_begin_13 ?_
    refine zb_lconst E dX6_begin_14 (v := 0) rfl ?_
    refine zb_cSv E [.ref (C.X.1 + (15 + ix x1)), .long 0] zy_J7_fill_d0a16 zw_570 (c_J7_fill_d0a16 (15 + ix x1) (zglt (ib_lt g1)) (zF_g (ib_lt g1)) (by decide)) (by decide) rfl rfl (by first | decide | simp [Value.category]) dX6_begin_15 (cs2 := (0, 0)) rfl ?_
    refine zb_S (S2 := ((va_up I 29 v_rowOf), (va_up (va_up (zg J (upF v_costs (ix x1) (fun _ => 0))) 26 v_rowPrices) 27 v_columnPrices), Rr, D)) (zS_eq rfl (by exact ((zup_c (Ne.symm (zgne (ib_lt g1) (by decide : (27 : Nat) < 15 ∨ 26 ≤ (27 : Nat))))).trans (zcgF ((zup_c (Ne.symm (zgne (ib_lt g1) (by decide : (26 : Nat) < 15 ∨ 26 ≤ (26 : Nat))))).trans (zcgF (zg_up (ib_lt g1)))))))) ?_
    refine zb_iinc E dX6_begin_18 1 rfl (v := (x1 + 1)) rfl (by decide) (lv2 := [(1, .int (x1 + 1)), (0, .ref (C.X.1 + 13))]) rfl ?_
    refine zb_goto E dX6_begin_21 (tgt := 2) rfl ?_
    refine zb_sub [1, 0] rfl ?_
    exact ih (x1 + 1) (upF v_costs (ix x1) (fun _ => 0)) h
theorem c_X6_begin_b24 {C : zC} {I : Nat → Nat → Int32} {J : Nat → Nat → Int64} {Rr : Nat → Nat → Option Nat} {D : zD} (N : Nat) (y_v_columnPrices : (Nat → Int64)) (y_v_costs : (Nat → Nat → Int64)) (y_v_rowOf : (Nat → Int32)) (y_v_rowPrices : (Nat → Int64)) (E : zE C RX6 cX6_begin 2 none ({ frames := 1, cells := 0, slots := 0, locals := 24 } : Room)) (hQ : C.Q = zQv C ({ frames := 1, cells := 0, slots := 0, locals := 24 } : Room) ((va_up I 29 y_v_rowOf), (va_up (va_up (zg J y_v_costs) 26 y_v_rowPrices) 27 y_v_columnPrices), Rr, D)) (v_columnPrices : (Nat → Int64)) (v_costs : (Nat → Nat → Int64)) (v_rowOf : (Nat → Int32)) (v_rowPrices : (Nat → Int64)) (h : pMatcher_begin_b24 N v_columnPrices v_costs v_rowOf v_rowPrices = some (y_v_columnPrices, y_v_costs, y_v_rowOf, y_v_rowPrices)) : zB C (0, 0) 24 [(0, .ref (C.X.1 + 13))] [] ((va_up I 29 v_rowOf), (va_up (va_up (zg J v_costs) 26 v_rowPrices) 27 v_columnPrices), Rr, D) := by
  refine zb_aload_n E dX6_begin_24 0 rfl rfl ?_
  refine zb_get E 13 (by decide) (zF_13 C.X) rfl zin6 1 (by decide) zw_61 (v := .ref (C.X.1 + 26)) rfl dX6_begin_25 ?_
  refine zb_lconst E dX6_begin_28 (v := 0) rfl ?_
  refine zb_cSv E [.ref (C.X.1 + 26), .long 0] zy_J7_fill_d0a16 zw_570 (c_J7_fill_d0a16 26 (by decide) zF_26 (by decide)) (by decide) rfl rfl (by first | decide | simp [Value.category]) dX6_begin_29 (cs2 := (0, 0)) rfl ?_
  refine zb_S (S2 := ((va_up I 29 v_rowOf), (va_up (va_up (zg J v_costs) 26 (fun _ => 0)) 27 v_columnPrices), Rr, D)) (zS_eq rfl (zn2 (by decide : (27 : Nat) ≠ 26))) ?_
  refine zb_aload_n E dX6_begin_32 0 rfl rfl ?_
  refine zb_get E 13 (by decide) (zF_13 C.X) rfl zin6 2 (by decide) zw_62 (v := .ref (C.X.1 + 27)) rfl dX6_begin_33 ?_
  refine zb_lconst E dX6_begin_36 (v := 0) rfl ?_
  refine zb_cSv E [.ref (C.X.1 + 27), .long 0] zy_J7_fill_d0a16 zw_570 (c_J7_fill_d0a16 27 (by decide) zF_27 (by decide)) (by decide) rfl rfl (by first | decide | simp [Value.category]) dX6_begin_37 (cs2 := (0, 0)) rfl ?_
  refine zb_S (S2 := ((va_up I 29 v_rowOf), (va_up (va_up (zg J v_costs) 26 (fun _ => 0)) 27 (fun _ => 0)), Rr, D)) (zS_eq rfl zn1) ?_
  refine zb_aload_n E dX6_begin_40 0 rfl rfl ?_
  refine zb_get E 13 (by decide) (zF_13 C.X) rfl zin6 4 (by decide) zw_64 (v := .ref (C.X.1 + 29)) rfl dX6_begin_41 ?_
  refine zb_iconst E dX6_begin_44 (v := 0) rfl ?_
  refine zb_cSv E [.ref (C.X.1 + 29), .int 0] zy_J7_fill_53178 zw_573 (c_J7_fill_53178 29 (by decide) zF_29 (by decide)) (by decide) rfl rfl (by first | decide | simp [Value.category]) dX6_begin_45 (cs2 := (0, 0)) rfl ?_
  refine zb_S (S2 := ((va_up I 29 (fun _ => 0)), (va_up (va_up (zg J v_costs) 26 (fun _ => 0)) 27 (fun _ => 0)), Rr, D)) (zS_eq zn1 rfl) ?_
  obtain ⟨rfl, rfl, rfl, rfl⟩ := zinj4 h
  exact zb_vret E hQ rfl ⟨Nat.zero_le _, Nat.zero_le _⟩ dX6_begin_48
theorem c_X6_begin_0 {C : zC} {I : Nat → Nat → Int32} {J : Nat → Nat → Int64} {Rr : Nat → Nat → Option Nat} {D : zD} (N : Nat) (y_v_columnPrices : (Nat → Int64)) (y_v_costs : (Nat → Nat → Int64)) (y_v_rowOf : (Nat → Int32)) (y_v_rowPrices : (Nat → Int64)) (E : zE C RX6 cX6_begin 2 none ({ frames := 1, cells := 0, slots := 0, locals := 24 } : Room)) (hQ : C.Q = zQv C ({ frames := 1, cells := 0, slots := 0, locals := 24 } : Room) ((va_up I 29 y_v_rowOf), (va_up (va_up (zg J y_v_costs) 26 y_v_rowPrices) 27 y_v_columnPrices), Rr, D)) (v_columnPrices : (Nat → Int64)) (v_costs : (Nat → Nat → Int64)) (v_rowOf : (Nat → Int32)) (v_rowPrices : (Nat → Int64)) (h : pMatcher_begin N v_columnPrices v_costs v_rowOf v_rowPrices = some (y_v_columnPrices, y_v_costs, y_v_rowOf, y_v_rowPrices)) : zB C (0, 0) 0 [(0, .ref (C.X.1 + 13))] [] ((va_up I 29 v_rowOf), (va_up (va_up (zg J v_costs) 26 v_rowPrices) 27 v_columnPrices), Rr, D) := by
  refine zb_iconst E dX6_begin_0 (v := 0) rfl ?_
  refine zb_istore_n E dX6_begin_1 rfl (by decide) (lv2 := [(1, .int 0), (0, .ref (C.X.1 + 13))]) rfl ?_
  refine zb_sub [1, 0] rfl ?_
  exact c_X6_begin_b2 N y_v_columnPrices y_v_costs y_v_rowOf y_v_rowPrices E hQ v_columnPrices v_rowOf v_rowPrices _ (fun v_costs_z1 h => c_X6_begin_b24 N y_v_columnPrices y_v_costs y_v_rowOf y_v_rowPrices E hQ v_columnPrices v_costs_z1 v_rowOf v_rowPrices h) _ 0 v_costs h
theorem c_X6_begin {l : Launch} {X : zX} {I : Nat → Nat → Int32} {J : Nat → Nat → Int64} {Rr : Nat → Nat → Option Nat} {D : zD} {N : Nat} (v_columnPrices : (Nat → Int64)) (e_v_columnPrices : J 27 = v_columnPrices) (v_costs : (Nat → Nat → Int64)) (e_v_costs : ∀ q, q < 11 → J (15 + q) = v_costs q) (v_rowOf : (Nat → Int32)) (e_v_rowOf : I 29 = v_rowOf) (v_rowPrices : (Nat → Int64)) (e_v_rowPrices : J 26 = v_rowPrices) {y_v_columnPrices : (Nat → Int64)} {y_v_costs : (Nat → Nat → Int64)} {y_v_rowOf : (Nat → Int32)} {y_v_rowPrices : (Nat → Int64)} (h : pMatcher_begin N v_columnPrices v_costs v_rowOf v_rowPrices = some (y_v_columnPrices, y_v_costs, y_v_rowOf, y_v_rowPrices)) : zMv l yX6_begin cX6_begin 2 none ({ frames := 1, cells := 0, slots := 0, locals := 24 } : Room) X [.ref (X.1 + 13)] (I, J, Rr, D) ((va_up I 29 y_v_rowOf), (va_up (va_up (zg J y_v_costs) 26 y_v_rowPrices) 27 y_v_columnPrices), Rr, D) := by
  refine zMv.of (by decide) (Nat.le_of_ble_eq_true rfl) (fun C E hl hX hQ => ?_)
  subst hl
  subst hX
  have eI0 : (va_up I 29 v_rowOf) = I := by rw [zup_idE e_v_rowOf]
  have eJ0 : (va_up (va_up (zg J v_costs) 26 v_rowPrices) 27 v_columnPrices) = J := by rw [zg_id e_v_costs, zup_idE e_v_rowPrices, zup_idE e_v_columnPrices]
  refine zb_S (S2 := ((va_up I 29 v_rowOf), (va_up (va_up (zg J v_costs) 26 v_rowPrices) 27 v_columnPrices), Rr, D)) (zS_eq eI0.symm eJ0.symm) ?_
  exact c_X6_begin_0 N y_v_columnPrices y_v_costs y_v_rowOf y_v_rowPrices E hQ v_columnPrices v_costs v_rowOf v_rowPrices h
-- ChequeredCloth$Matcher.allow
theorem dX6_allow_0 : decode cX6_allow 0 = .ok (.iload_n 1, 1) := by decide +kernel
theorem dX6_allow_1 : decode cX6_allow 1 = .ok (.invokestatic 49, 3) := by decide +kernel
theorem dX6_allow_4 : decode cX6_allow 4 = .ok (.ifCond .eq 10, 3) := by decide +kernel
theorem dX6_allow_7 : decode cX6_allow 7 = .ok (.iload_n 2, 1) := by decide +kernel
theorem dX6_allow_8 : decode cX6_allow 8 = .ok (.invokestatic 49, 3) := by decide +kernel
theorem dX6_allow_11 : decode cX6_allow 11 = .ok (.ifCond .ne 4, 3) := by decide +kernel
theorem dX6_allow_14 : decode cX6_allow 14 = .ok (.return_, 1) := by decide +kernel
theorem dX6_allow_15 : decode cX6_allow 15 = .ok (.iload_n 2, 1) := by decide +kernel
theorem dX6_allow_16 : decode cX6_allow 16 = .ok (.bipush 10, 2) := by decide +kernel
theorem dX6_allow_18 : decode cX6_allow 18 = .ok (.isub, 1) := by decide +kernel
theorem dX6_allow_19 : decode cX6_allow 19 = .ok (.i2l, 1) := by decide +kernel
theorem dX6_allow_20 : decode cX6_allow 20 = .ok (.lstore 4, 2) := by decide +kernel
theorem dX6_allow_22 : decode cX6_allow 22 = .ok (.iload_n 1, 1) := by decide +kernel
theorem dX6_allow_23 : decode cX6_allow 23 = .ok (.iconst 1, 1) := by decide +kernel
theorem dX6_allow_24 : decode cX6_allow 24 = .ok (.iadd, 1) := by decide +kernel
theorem dX6_allow_25 : decode cX6_allow 25 = .ok (.istore 6, 2) := by decide +kernel
theorem dX6_allow_27 : decode cX6_allow 27 = .ok (.iload 6, 2) := by decide +kernel
theorem dX6_allow_29 : decode cX6_allow 29 = .ok (.bipush 10, 2) := by decide +kernel
theorem dX6_allow_31 : decode cX6_allow 31 = .ok (.if_icmp .ge 17, 3) := by decide +kernel
theorem dX6_allow_34 : decode cX6_allow 34 = .ok (.lload 4, 2) := by decide +kernel
theorem dX6_allow_36 : decode cX6_allow 36 = .ok (.ldc2_w 53, 3) := by decide +kernel
theorem dX6_allow_39 : decode cX6_allow 39 = .ok (.lmul, 1) := by decide +kernel
theorem dX6_allow_40 : decode cX6_allow 40 = .ok (.lstore 4, 2) := by decide +kernel
theorem dX6_allow_42 : decode cX6_allow 42 = .ok (.iinc 6 1, 3) := by decide +kernel
theorem dX6_allow_45 : decode cX6_allow 45 = .ok (.goto (-18), 3) := by decide +kernel
theorem dX6_allow_48 : decode cX6_allow 48 = .ok (.aload_n 0, 1) := by decide +kernel
theorem dX6_allow_49 : decode cX6_allow 49 = .ok (.getfield 13, 3) := by decide +kernel
theorem dX6_allow_52 : decode cX6_allow 52 = .ok (.iload_n 1, 1) := by decide +kernel
theorem dX6_allow_53 : decode cX6_allow 53 = .ok (.iconst 1, 1) := by decide +kernel
theorem dX6_allow_54 : decode cX6_allow 54 = .ok (.iadd, 1) := by decide +kernel
theorem dX6_allow_55 : decode cX6_allow 55 = .ok (.aaload, 1) := by decide +kernel
theorem dX6_allow_56 : decode cX6_allow 56 = .ok (.iload_n 2, 1) := by decide +kernel
theorem dX6_allow_57 : decode cX6_allow 57 = .ok (.iconst 1, 1) := by decide +kernel
theorem dX6_allow_58 : decode cX6_allow 58 = .ok (.iadd, 1) := by decide +kernel
theorem dX6_allow_59 : decode cX6_allow 59 = .ok (.iload_n 3, 1) := by decide +kernel
theorem dX6_allow_60 : decode cX6_allow 60 = .ok (.i2l, 1) := by decide +kernel
theorem dX6_allow_61 : decode cX6_allow 61 = .ok (.ldc2_w 55, 3) := by decide +kernel
theorem dX6_allow_64 : decode cX6_allow 64 = .ok (.lmul, 1) := by decide +kernel
theorem dX6_allow_65 : decode cX6_allow 65 = .ok (.ldc2_w 57, 3) := by decide +kernel
theorem dX6_allow_68 : decode cX6_allow 68 = .ok (.lsub, 1) := by decide +kernel
theorem dX6_allow_69 : decode cX6_allow 69 = .ok (.lload 4, 2) := by decide +kernel
theorem dX6_allow_71 : decode cX6_allow 71 = .ok (.ladd, 1) := by decide +kernel
theorem dX6_allow_72 : decode cX6_allow 72 = .ok (.lastore, 1) := by decide +kernel
theorem dX6_allow_73 : decode cX6_allow 73 = .ok (.return_, 1) := by decide +kernel
theorem zy_X6_allow : zYv yX6_allow cX6_allow 7 none 3 := ⟨zw_576, zw_577, zw_4, zw_578, by decide, by decide, by decide⟩
theorem c_X6_allow_b27 {C : zC} {I : Nat → Nat → Int32} {J : Nat → Nat → Int64} {Rr : Nat → Nat → Option Nat} {D : zD} (N : Nat) (a1 : Int32) (a2 : Int32) (a3 : Int32) (y_v_costs : (Nat → Nat → Int64)) (E : zE C RX6 cX6_allow 7 none ({ frames := 1, cells := 0, slots := 0, locals := 20 } : Room)) (hQ : C.Q = zQv C ({ frames := 1, cells := 0, slots := 0, locals := 20 } : Room) (I, (zg J y_v_costs), Rr, D)) (v_costs : (Nat → Nat → Int64))  : ∀ (n9 : Nat) (x4 : Int64) (x6 : Int32), pMatcher_allow_b27 N a1 a2 a3 v_costs n9 x4 x6 = some y_v_costs → zB C (0, 0) 27 [(0, .ref (C.X.1 + 13)), (1, .int a1), (2, .int a2), (3, .int a3), (4, .long x4), (6, .int x6)] [] (I, (zg J v_costs), Rr, D) := by
  refine zlp2_ind (P := fun (x4 : Int64) (x6 : Int32) => zB C (0, 0) 27 [(0, .ref (C.X.1 + 13)), (1, .int a1), (2, .int a2), (3, .int a3), (4, .long x4), (6, .int x6)] [] (I, (zg J v_costs), Rr, D)) (fun self ih => ?_)
  intro x4 x6 h
  refine zb_iload E dX6_allow_27 5 rfl ?_
  refine zb_bipush E dX6_allow_29 (v := 10) rfl ?_
  refine zb_icmp_ge E dX6_allow_31 (tgt := 48) rfl (fun hc => ?_) (fun hc => ?_)
  · have h := if_t h hc
    refine zb_aload_n E dX6_allow_48 0 rfl rfl ?_
    refine zb_get E 13 (by decide) (zF_13 C.X) rfl zin6 0 (by decide) zw_60 (v := .ref (C.X.1 + 14)) rfl dX6_allow_49 ?_
    refine zb_iload_n E dX6_allow_52 1 rfl rfl ?_
    refine zb_iconst E dX6_allow_53 (v := 1) rfl ?_
    refine zb_iadd E dX6_allow_54 ?_
    obtain ⟨g3, h⟩ := gd_s h
    refine zb_aaldg E (ib_in g3) dX6_allow_55 ?_
    refine zb_iload_n E dX6_allow_56 2 rfl rfl ?_
    refine zb_iconst E dX6_allow_57 (v := 1) rfl ?_
    refine zb_iadd E dX6_allow_58 ?_
    refine zb_iload_n E dX6_allow_59 3 rfl rfl ?_
    refine zb_i2l E dX6_allow_60 ?_
    refine zb_ldc2 E dX6_allow_61 (v := 25937424601) zw_581 ?_
    refine zb_lmul E dX6_allow_64 ?_
    refine zb_ldc2 E dX6_allow_65 (v := 129738997854202) zw_582 ?_
    refine zb_lsub E dX6_allow_68 ?_
    refine zb_lload E dX6_allow_69 4 rfl ?_
    refine zb_ladd E dX6_allow_71 ?_
    obtain ⟨g4, h⟩ := gd_s h
    refine zb_last E (15 + ix (a1 + 1)) (zglt (ib_lt g3)) (zF_g (ib_lt g3)) (f := v_costs (ix (a1 + 1))) (by exact (zg_at (ib_lt g3))) (ib_in g4) dX6_allow_72 (J2 := (zg J (upG v_costs (ix (a1 + 1)) (ix (a2 + 1)) ((((i2l a3) * 25937424601) - 129738997854202) + x4)))) (by exact (zg_up (ib_lt g3))) ?_
    obtain rfl := zinj1 h
    exact zb_vret E hQ rfl ⟨Nat.zero_le _, Nat.zero_le _⟩ dX6_allow_73
  · have h := if_f h hc
    refine zb_lload E dX6_allow_34 4 rfl ?_
    refine zb_ldc2 E dX6_allow_36 (v := 11) zw_580 ?_
    refine zb_lmul E dX6_allow_39 ?_
    refine zb_lstore E dX6_allow_40 (by decide) (lv2 := [(4, .long (x4 * 11)), (0, .ref (C.X.1 + 13)), (1, .int a1), (2, .int a2), (3, .int a3), (6, .int x6)]) rfl ?_
    refine zb_iinc E dX6_allow_42 5 rfl (v := (x6 + 1)) rfl (by decide) (lv2 := [(6, .int (x6 + 1)), (4, .long (x4 * 11)), (0, .ref (C.X.1 + 13)), (1, .int a1), (2, .int a2), (3, .int a3)]) rfl ?_
    refine zb_goto E dX6_allow_45 (tgt := 27) rfl ?_
    refine zb_sub [2, 3, 4, 5, 1, 0] rfl ?_
    exact ih (x4 * 11) (x6 + 1) h
theorem c_X6_allow_0 {C : zC} {I : Nat → Nat → Int32} {J : Nat → Nat → Int64} {Rr : Nat → Nat → Option Nat} {D : zD} (N : Nat) (a1 : Int32) (a2 : Int32) (a3 : Int32) (y_v_costs : (Nat → Nat → Int64)) (E : zE C RX6 cX6_allow 7 none ({ frames := 1, cells := 0, slots := 0, locals := 20 } : Room)) (hQ : C.Q = zQv C ({ frames := 1, cells := 0, slots := 0, locals := 20 } : Room) (I, (zg J y_v_costs), Rr, D)) (v_costs : (Nat → Nat → Int64)) (h : pMatcher_allow N a1 a2 a3 v_costs = some y_v_costs) : zB C (0, 0) 0 [(0, .ref (C.X.1 + 13)), (1, .int a1), (2, .int a2), (3, .int a3)] [] (I, (zg J v_costs), Rr, D) := by
  refine zb_iload_n E dX6_allow_0 1 rfl rfl ?_
  obtain ⟨rc1, hc_1, h⟩ := bd1_s h
  refine zb_cSNi E [.int a1] zy_X11_isStick znw_16 (c_X11_isStick hc_1) (by decide) rfl rfl (by first | decide | simp [Value.category]) dX6_allow_1 (cs2 := (0, 0)) rfl ?_
  refine zb_if_eq E dX6_allow_4 (tgt := 14) rfl (fun hc => ?_) (fun hc => ?_)
  · have h := if_t h hc
    obtain rfl := zinj1 h
    exact zb_vret E hQ rfl ⟨Nat.zero_le _, Nat.zero_le _⟩ dX6_allow_14
  · have h := if_f h hc
    refine zb_iload_n E dX6_allow_7 2 rfl rfl ?_
    obtain ⟨rc2, hc_8, h⟩ := bd1_s h
    refine zb_cSNi E [.int a2] zy_X11_isStick znw_16 (c_X11_isStick hc_8) (by decide) rfl rfl (by first | decide | simp [Value.category]) dX6_allow_8 (cs2 := (0, 0)) rfl ?_
    refine zb_if_ne E dX6_allow_11 (tgt := 15) rfl (fun hc => ?_) (fun hc => ?_)
    · have h := if_f h hc
      refine zb_iload_n E dX6_allow_15 2 rfl rfl ?_
      refine zb_bipush E dX6_allow_16 (v := 10) rfl ?_
      refine zb_isub E dX6_allow_18 ?_
      refine zb_i2l E dX6_allow_19 ?_
      refine zb_lstore E dX6_allow_20 (by decide) (lv2 := [(4, .long (i2l (a2 - 10))), (0, .ref (C.X.1 + 13)), (1, .int a1), (2, .int a2), (3, .int a3)]) rfl ?_
      refine zb_iload_n E dX6_allow_22 2 rfl rfl ?_
      refine zb_iconst E dX6_allow_23 (v := 1) rfl ?_
      refine zb_iadd E dX6_allow_24 ?_
      refine zb_istore E dX6_allow_25 (by decide) (lv2 := [(6, .int (a1 + 1)), (4, .long (i2l (a2 - 10))), (0, .ref (C.X.1 + 13)), (1, .int a1), (2, .int a2), (3, .int a3)]) rfl ?_
      refine zb_sub [2, 3, 4, 5, 1, 0] rfl ?_
      exact c_X6_allow_b27 N a1 a2 a3 y_v_costs E hQ v_costs _ (i2l (a2 - 10)) (a1 + 1) h
    · have h := if_t h hc
      obtain rfl := zinj1 h
      exact zb_vret E hQ rfl ⟨Nat.zero_le _, Nat.zero_le _⟩ dX6_allow_14
theorem c_X6_allow {l : Launch} {X : zX} {I : Nat → Nat → Int32} {J : Nat → Nat → Int64} {Rr : Nat → Nat → Option Nat} {D : zD} {N : Nat} {a1 : Int32} {a2 : Int32} {a3 : Int32} (v_costs : (Nat → Nat → Int64)) (e_v_costs : ∀ q, q < 11 → J (15 + q) = v_costs q) {y_v_costs : (Nat → Nat → Int64)} (h : pMatcher_allow N a1 a2 a3 v_costs = some y_v_costs) : zMv l yX6_allow cX6_allow 7 none ({ frames := 1, cells := 0, slots := 0, locals := 20 } : Room) X [.ref (X.1 + 13), .int a1, .int a2, .int a3] (I, J, Rr, D) (I, (zg J y_v_costs), Rr, D) := by
  refine zMv.of (by decide) (Nat.le_of_ble_eq_true rfl) (fun C E hl hX hQ => ?_)
  subst hl
  subst hX
  have eI0 : I = I := rfl
  have eJ0 : (zg J v_costs) = J := by rw [zg_id e_v_costs]
  refine zb_S (S2 := (I, (zg J v_costs), Rr, D)) (zS_eq eI0.symm eJ0.symm) ?_
  exact c_X6_allow_0 N a1 a2 a3 y_v_costs E hQ v_costs h
-- ChequeredCloth$Matcher.lookFrom
theorem dX6_lookFrom_0 : decode cX6_lookFrom 0 = .ok (.aload_n 0, 1) := by decide +kernel
theorem dX6_lookFrom_1 : decode cX6_lookFrom 1 = .ok (.getfield 26, 3) := by decide +kernel
theorem dX6_lookFrom_4 : decode cX6_lookFrom 4 = .ok (.iload_n 1, 1) := by decide +kernel
theorem dX6_lookFrom_5 : decode cX6_lookFrom 5 = .ok (.iaload, 1) := by decide +kernel
theorem dX6_lookFrom_6 : decode cX6_lookFrom 6 = .ok (.istore_n 2, 1) := by decide +kernel
theorem dX6_lookFrom_7 : decode cX6_lookFrom 7 = .ok (.iconst 0, 1) := by decide +kernel
theorem dX6_lookFrom_8 : decode cX6_lookFrom 8 = .ok (.istore_n 3, 1) := by decide +kernel
theorem dX6_lookFrom_9 : decode cX6_lookFrom 9 = .ok (.ldc2_w 67, 3) := by decide +kernel
theorem dX6_lookFrom_12 : decode cX6_lookFrom 12 = .ok (.lstore 4, 2) := by decide +kernel
theorem dX6_lookFrom_14 : decode cX6_lookFrom 14 = .ok (.iconst 1, 1) := by decide +kernel
theorem dX6_lookFrom_15 : decode cX6_lookFrom 15 = .ok (.istore 6, 2) := by decide +kernel
theorem dX6_lookFrom_17 : decode cX6_lookFrom 17 = .ok (.iload 6, 2) := by decide +kernel
theorem dX6_lookFrom_19 : decode cX6_lookFrom 19 = .ok (.bipush 20, 2) := by decide +kernel
theorem dX6_lookFrom_21 : decode cX6_lookFrom 21 = .ok (.if_icmp .gt 100, 3) := by decide +kernel
theorem dX6_lookFrom_24 : decode cX6_lookFrom 24 = .ok (.aload_n 0, 1) := by decide +kernel
theorem dX6_lookFrom_25 : decode cX6_lookFrom 25 = .ok (.getfield 33, 3) := by decide +kernel
theorem dX6_lookFrom_28 : decode cX6_lookFrom 28 = .ok (.iload 6, 2) := by decide +kernel
theorem dX6_lookFrom_30 : decode cX6_lookFrom 30 = .ok (.baload, 1) := by decide +kernel
theorem dX6_lookFrom_31 : decode cX6_lookFrom 31 = .ok (.ifCond .ne 84, 3) := by decide +kernel
theorem dX6_lookFrom_34 : decode cX6_lookFrom 34 = .ok (.aload_n 0, 1) := by decide +kernel
theorem dX6_lookFrom_35 : decode cX6_lookFrom 35 = .ok (.getfield 13, 3) := by decide +kernel
theorem dX6_lookFrom_38 : decode cX6_lookFrom 38 = .ok (.iload_n 2, 1) := by decide +kernel
theorem dX6_lookFrom_39 : decode cX6_lookFrom 39 = .ok (.aaload, 1) := by decide +kernel
theorem dX6_lookFrom_40 : decode cX6_lookFrom 40 = .ok (.iload 6, 2) := by decide +kernel
theorem dX6_lookFrom_42 : decode cX6_lookFrom 42 = .ok (.laload, 1) := by decide +kernel
theorem dX6_lookFrom_43 : decode cX6_lookFrom 43 = .ok (.aload_n 0, 1) := by decide +kernel
theorem dX6_lookFrom_44 : decode cX6_lookFrom 44 = .ok (.getfield 16, 3) := by decide +kernel
theorem dX6_lookFrom_47 : decode cX6_lookFrom 47 = .ok (.iload_n 2, 1) := by decide +kernel
theorem dX6_lookFrom_48 : decode cX6_lookFrom 48 = .ok (.laload, 1) := by decide +kernel
theorem dX6_lookFrom_49 : decode cX6_lookFrom 49 = .ok (.lsub, 1) := by decide +kernel
theorem dX6_lookFrom_50 : decode cX6_lookFrom 50 = .ok (.aload_n 0, 1) := by decide +kernel
theorem dX6_lookFrom_51 : decode cX6_lookFrom 51 = .ok (.getfield 20, 3) := by decide +kernel
theorem dX6_lookFrom_54 : decode cX6_lookFrom 54 = .ok (.iload 6, 2) := by decide +kernel
theorem dX6_lookFrom_56 : decode cX6_lookFrom 56 = .ok (.laload, 1) := by decide +kernel
theorem dX6_lookFrom_57 : decode cX6_lookFrom 57 = .ok (.lsub, 1) := by decide +kernel
theorem dX6_lookFrom_58 : decode cX6_lookFrom 58 = .ok (.lstore 7, 2) := by decide +kernel
theorem dX6_lookFrom_60 : decode cX6_lookFrom 60 = .ok (.lload 7, 2) := by decide +kernel
theorem dX6_lookFrom_62 : decode cX6_lookFrom 62 = .ok (.aload_n 0, 1) := by decide +kernel
theorem dX6_lookFrom_63 : decode cX6_lookFrom 63 = .ok (.getfield 23, 3) := by decide +kernel
theorem dX6_lookFrom_66 : decode cX6_lookFrom 66 = .ok (.iload 6, 2) := by decide +kernel
theorem dX6_lookFrom_68 : decode cX6_lookFrom 68 = .ok (.laload, 1) := by decide +kernel
theorem dX6_lookFrom_69 : decode cX6_lookFrom 69 = .ok (.lcmp, 1) := by decide +kernel
theorem dX6_lookFrom_70 : decode cX6_lookFrom 70 = .ok (.ifCond .ge 20, 3) := by decide +kernel
theorem dX6_lookFrom_73 : decode cX6_lookFrom 73 = .ok (.aload_n 0, 1) := by decide +kernel
theorem dX6_lookFrom_74 : decode cX6_lookFrom 74 = .ok (.getfield 23, 3) := by decide +kernel
theorem dX6_lookFrom_77 : decode cX6_lookFrom 77 = .ok (.iload 6, 2) := by decide +kernel
theorem dX6_lookFrom_79 : decode cX6_lookFrom 79 = .ok (.lload 7, 2) := by decide +kernel
theorem dX6_lookFrom_81 : decode cX6_lookFrom 81 = .ok (.lastore, 1) := by decide +kernel
theorem dX6_lookFrom_82 : decode cX6_lookFrom 82 = .ok (.aload_n 0, 1) := by decide +kernel
theorem dX6_lookFrom_83 : decode cX6_lookFrom 83 = .ok (.getfield 30, 3) := by decide +kernel
theorem dX6_lookFrom_86 : decode cX6_lookFrom 86 = .ok (.iload 6, 2) := by decide +kernel
theorem dX6_lookFrom_88 : decode cX6_lookFrom 88 = .ok (.iload_n 1, 1) := by decide +kernel
theorem dX6_lookFrom_89 : decode cX6_lookFrom 89 = .ok (.iastore, 1) := by decide +kernel
theorem dX6_lookFrom_90 : decode cX6_lookFrom 90 = .ok (.aload_n 0, 1) := by decide +kernel
theorem dX6_lookFrom_91 : decode cX6_lookFrom 91 = .ok (.getfield 23, 3) := by decide +kernel
theorem dX6_lookFrom_94 : decode cX6_lookFrom 94 = .ok (.iload 6, 2) := by decide +kernel
theorem dX6_lookFrom_96 : decode cX6_lookFrom 96 = .ok (.laload, 1) := by decide +kernel
theorem dX6_lookFrom_97 : decode cX6_lookFrom 97 = .ok (.lload 4, 2) := by decide +kernel
theorem dX6_lookFrom_99 : decode cX6_lookFrom 99 = .ok (.lcmp, 1) := by decide +kernel
theorem dX6_lookFrom_100 : decode cX6_lookFrom 100 = .ok (.ifCond .ge 15, 3) := by decide +kernel
theorem dX6_lookFrom_103 : decode cX6_lookFrom 103 = .ok (.aload_n 0, 1) := by decide +kernel
theorem dX6_lookFrom_104 : decode cX6_lookFrom 104 = .ok (.getfield 23, 3) := by decide +kernel
theorem dX6_lookFrom_107 : decode cX6_lookFrom 107 = .ok (.iload 6, 2) := by decide +kernel
theorem dX6_lookFrom_109 : decode cX6_lookFrom 109 = .ok (.laload, 1) := by decide +kernel
theorem dX6_lookFrom_110 : decode cX6_lookFrom 110 = .ok (.lstore 4, 2) := by decide +kernel
theorem dX6_lookFrom_112 : decode cX6_lookFrom 112 = .ok (.iload 6, 2) := by decide +kernel
theorem dX6_lookFrom_114 : decode cX6_lookFrom 114 = .ok (.istore_n 3, 1) := by decide +kernel
theorem dX6_lookFrom_115 : decode cX6_lookFrom 115 = .ok (.iinc 6 1, 3) := by decide +kernel
theorem dX6_lookFrom_118 : decode cX6_lookFrom 118 = .ok (.goto (-101), 3) := by decide +kernel
theorem dX6_lookFrom_121 : decode cX6_lookFrom 121 = .ok (.iload_n 3, 1) := by decide +kernel
theorem dX6_lookFrom_122 : decode cX6_lookFrom 122 = .ok (.ireturn, 1) := by decide +kernel
theorem zy_X6_lookFrom : zYv yX6_lookFrom cX6_lookFrom 9 (some .int) 1 := ⟨zw_594, zws_8, zw_4, zw_595, by decide, by decide, by decide⟩
theorem c_X6_lookFrom_b90 {C : zC} {I : Nat → Nat → Int32} {J : Nat → Nat → Int64} {Rr : Nat → Nat → Option Nat} {D : zD} (N : Nat) (a1 : Int32) (v_columnPrices : (Nat → Int64)) (e_v_columnPrices : J 27 = v_columnPrices) (v_costs : (Nat → Nat → Int64)) (e_v_costs : ∀ q, q < 11 → J (15 + q) = v_costs q) (v_isReached : (Nat → Int32)) (e_v_isReached : I 31 = v_isReached) (v_rowOf : (Nat → Int32)) (e_v_rowOf : I 29 = v_rowOf) (v_rowPrices : (Nat → Int64)) (e_v_rowPrices : J 26 = v_rowPrices) (rr : Int32) (y_v_cameFrom : (Nat → Int32)) (y_v_gaps : (Nat → Int64)) (E : zE C RX6 cX6_lookFrom 9 (some .int) ({ frames := 0, cells := 0, slots := 0, locals := 0 } : Room)) (hQ : C.Q = zQi C ({ frames := 0, cells := 0, slots := 0, locals := 0 } : Room) rr ((va_up I 30 y_v_cameFrom), (va_up J 28 y_v_gaps), Rr, D)) (x2 : Int32) (x3 : Int32) (x4 : Int64) (x6 : Int32) (v_cameFrom : (Nat → Int32)) (v_gaps : (Nat → Int64)) (self : Int32 → Int64 → Int32 → (Nat → Int32) → (Nat → Int64) → Option R_pMatcher_lookFrom) (ih : ∀ (x3 : Int32) (x4 : Int64) (x6 : Int32) (v_cameFrom : (Nat → Int32)) (v_gaps : (Nat → Int64)), self x3 x4 x6 v_cameFrom v_gaps = some (rr, y_v_cameFrom, y_v_gaps) → zB C (0, 0) 17 [(0, .ref (C.X.1 + 13)), (1, .int a1), (2, .int x2), (3, .int x3), (4, .long x4), (6, .int x6)] [] ((va_up I 30 v_cameFrom), (va_up J 28 v_gaps), Rr, D)) (h : pMatcher_lookFrom_b90 N a1 v_columnPrices v_costs v_isReached v_rowOf v_rowPrices self x2 x3 x4 x6 v_cameFrom v_gaps = some (rr, y_v_cameFrom, y_v_gaps)) : zB C (0, 0) 90 [(0, .ref (C.X.1 + 13)), (1, .int a1), (2, .int x2), (3, .int x3), (4, .long x4), (6, .int x6)] [] ((va_up I 30 v_cameFrom), (va_up J 28 v_gaps), Rr, D) := by
  refine zb_aload_n E dX6_lookFrom_90 0 rfl rfl ?_
  refine zb_get E 13 (by decide) (zF_13 C.X) rfl zin6 3 (by decide) zw_63 (v := .ref (C.X.1 + 28)) rfl dX6_lookFrom_91 ?_
  refine zb_iload E dX6_lookFrom_94 5 rfl ?_
  obtain ⟨g4, h⟩ := gd_s h
  refine zb_lald E 28 (by decide) zF_28 (f := v_gaps) rfl (ib_in g4) dX6_lookFrom_96 ?_
  refine zb_lload E dX6_lookFrom_97 4 rfl ?_
  refine zb_lcmp E dX6_lookFrom_99 ?_
  refine zb_if_ge E dX6_lookFrom_100 (tgt := 115) rfl (fun hc => ?_) (fun hc => ?_)
  · have h := if_t h hc
    refine zb_iinc E dX6_lookFrom_115 5 rfl (v := (x6 + 1)) rfl (by decide) (lv2 := [(6, .int (x6 + 1)), (0, .ref (C.X.1 + 13)), (1, .int a1), (2, .int x2), (3, .int x3), (4, .long x4)]) rfl ?_
    refine zb_goto E dX6_lookFrom_118 (tgt := 17) rfl ?_
    refine zb_sub [1, 2, 3, 4, 5, 0] rfl ?_
    exact ih x3 x4 (x6 + 1) v_cameFrom v_gaps h
  · have h := if_f h hc
    refine zb_aload_n E dX6_lookFrom_103 0 rfl rfl ?_
    refine zb_get E 13 (by decide) (zF_13 C.X) rfl zin6 3 (by decide) zw_63 (v := .ref (C.X.1 + 28)) rfl dX6_lookFrom_104 ?_
    refine zb_iload E dX6_lookFrom_107 5 rfl ?_
    refine zb_lald E 28 (by decide) zF_28 (f := v_gaps) rfl (ib_in g4) dX6_lookFrom_109 ?_
    refine zb_lstore E dX6_lookFrom_110 (by decide) (lv2 := [(4, .long (v_gaps (ix x6))), (0, .ref (C.X.1 + 13)), (1, .int a1), (2, .int x2), (3, .int x3), (6, .int x6)]) rfl ?_
    refine zb_iload E dX6_lookFrom_112 5 rfl ?_
    refine zb_istore_n E dX6_lookFrom_114 rfl (by decide) (lv2 := [(3, .int x6), (4, .long (v_gaps (ix x6))), (0, .ref (C.X.1 + 13)), (1, .int a1), (2, .int x2), (6, .int x6)]) rfl ?_
    refine zb_iinc E dX6_lookFrom_115 5 rfl (v := (x6 + 1)) rfl (by decide) (lv2 := [(6, .int (x6 + 1)), (3, .int x6), (4, .long (v_gaps (ix x6))), (0, .ref (C.X.1 + 13)), (1, .int a1), (2, .int x2)]) rfl ?_
    refine zb_goto E dX6_lookFrom_118 (tgt := 17) rfl ?_
    refine zb_sub [3, 4, 5, 1, 2, 0] rfl ?_
    exact ih x6 (v_gaps (ix x6)) (x6 + 1) v_cameFrom v_gaps h
theorem c_X6_lookFrom_b17 {C : zC} {I : Nat → Nat → Int32} {J : Nat → Nat → Int64} {Rr : Nat → Nat → Option Nat} {D : zD} (N : Nat) (a1 : Int32) (v_columnPrices : (Nat → Int64)) (e_v_columnPrices : J 27 = v_columnPrices) (v_costs : (Nat → Nat → Int64)) (e_v_costs : ∀ q, q < 11 → J (15 + q) = v_costs q) (v_isReached : (Nat → Int32)) (e_v_isReached : I 31 = v_isReached) (v_rowOf : (Nat → Int32)) (e_v_rowOf : I 29 = v_rowOf) (v_rowPrices : (Nat → Int64)) (e_v_rowPrices : J 26 = v_rowPrices) (rr : Int32) (y_v_cameFrom : (Nat → Int32)) (y_v_gaps : (Nat → Int64)) (E : zE C RX6 cX6_lookFrom 9 (some .int) ({ frames := 0, cells := 0, slots := 0, locals := 0 } : Room)) (hQ : C.Q = zQi C ({ frames := 0, cells := 0, slots := 0, locals := 0 } : Room) rr ((va_up I 30 y_v_cameFrom), (va_up J 28 y_v_gaps), Rr, D)) (x2 : Int32)  : ∀ (n9 : Nat) (x3 : Int32) (x4 : Int64) (x6 : Int32) (v_cameFrom : (Nat → Int32)) (v_gaps : (Nat → Int64)), pMatcher_lookFrom_b17 N a1 v_columnPrices v_costs v_isReached v_rowOf v_rowPrices x2 n9 x3 x4 x6 v_cameFrom v_gaps = some (rr, y_v_cameFrom, y_v_gaps) → zB C (0, 0) 17 [(0, .ref (C.X.1 + 13)), (1, .int a1), (2, .int x2), (3, .int x3), (4, .long x4), (6, .int x6)] [] ((va_up I 30 v_cameFrom), (va_up J 28 v_gaps), Rr, D) := by
  refine zlp5_ind (P := fun (x3 : Int32) (x4 : Int64) (x6 : Int32) (v_cameFrom : (Nat → Int32)) (v_gaps : (Nat → Int64)) => zB C (0, 0) 17 [(0, .ref (C.X.1 + 13)), (1, .int a1), (2, .int x2), (3, .int x3), (4, .long x4), (6, .int x6)] [] ((va_up I 30 v_cameFrom), (va_up J 28 v_gaps), Rr, D)) (fun self ih => ?_)
  intro x3 x4 x6 v_cameFrom v_gaps h
  refine zb_iload E dX6_lookFrom_17 5 rfl ?_
  refine zb_bipush E dX6_lookFrom_19 (v := 20) rfl ?_
  refine zb_icmp_gt E dX6_lookFrom_21 (tgt := 121) rfl (fun hc => ?_) (fun hc => ?_)
  · have h := if_t h hc
    refine zb_iload_n E dX6_lookFrom_121 3 rfl rfl ?_
    obtain ⟨rfl, rfl, rfl⟩ := zinj3 h
    exact zb_iret E hQ rfl ⟨Nat.zero_le _, Nat.zero_le _⟩ dX6_lookFrom_122
  · have h := if_f h hc
    refine zb_aload_n E dX6_lookFrom_24 0 rfl rfl ?_
    refine zb_get E 13 (by decide) (zF_13 C.X) rfl zin6 6 (by decide) zw_66 (v := .ref (C.X.1 + 31)) rfl dX6_lookFrom_25 ?_
    refine zb_iload E dX6_lookFrom_28 5 rfl ?_
    obtain ⟨g2, h⟩ := gd_s h
    refine zb_zald E 31 (by decide) zF_31 (f := v_isReached) (by exact e_v_isReached) (ib_in g2) dX6_lookFrom_30 ?_
    refine zb_if_ne E dX6_lookFrom_31 (tgt := 115) rfl (fun hc => ?_) (fun hc => ?_)
    · have h := if_f h hc
      refine zb_iinc E dX6_lookFrom_115 5 rfl (v := (x6 + 1)) rfl (by decide) (lv2 := [(6, .int (x6 + 1)), (0, .ref (C.X.1 + 13)), (1, .int a1), (2, .int x2), (3, .int x3), (4, .long x4)]) rfl ?_
      refine zb_goto E dX6_lookFrom_118 (tgt := 17) rfl ?_
      refine zb_sub [1, 2, 3, 4, 5, 0] rfl ?_
      exact ih x3 x4 (x6 + 1) v_cameFrom v_gaps h
    · have h := if_t h hc
      refine zb_aload_n E dX6_lookFrom_34 0 rfl rfl ?_
      refine zb_get E 13 (by decide) (zF_13 C.X) rfl zin6 0 (by decide) zw_60 (v := .ref (C.X.1 + 14)) rfl dX6_lookFrom_35 ?_
      refine zb_iload_n E dX6_lookFrom_38 2 rfl rfl ?_
      obtain ⟨g3, h⟩ := gd_s h
      refine zb_aaldg E (ib_in g3) dX6_lookFrom_39 ?_
      refine zb_iload E dX6_lookFrom_40 5 rfl ?_
      refine zb_lald E (15 + ix x2) (zglt (ib_lt g3)) (zF_g (ib_lt g3)) (f := v_costs (ix x2)) (by exact ((zup_n (zgne (ib_lt g3) (by decide : (28 : Nat) < 15 ∨ 26 ≤ (28 : Nat)))).trans (e_v_costs _ (ib_lt g3)))) (ib_in g2) dX6_lookFrom_42 ?_
      refine zb_aload_n E dX6_lookFrom_43 0 rfl rfl ?_
      refine zb_get E 13 (by decide) (zF_13 C.X) rfl zin6 1 (by decide) zw_61 (v := .ref (C.X.1 + 26)) rfl dX6_lookFrom_44 ?_
      refine zb_iload_n E dX6_lookFrom_47 2 rfl rfl ?_
      refine zb_lald E 26 (by decide) zF_26 (f := v_rowPrices) (by exact e_v_rowPrices) (ib_in g3) dX6_lookFrom_48 ?_
      refine zb_lsub E dX6_lookFrom_49 ?_
      refine zb_aload_n E dX6_lookFrom_50 0 rfl rfl ?_
      refine zb_get E 13 (by decide) (zF_13 C.X) rfl zin6 2 (by decide) zw_62 (v := .ref (C.X.1 + 27)) rfl dX6_lookFrom_51 ?_
      refine zb_iload E dX6_lookFrom_54 5 rfl ?_
      refine zb_lald E 27 (by decide) zF_27 (f := v_columnPrices) (by exact e_v_columnPrices) (ib_in g2) dX6_lookFrom_56 ?_
      refine zb_lsub E dX6_lookFrom_57 ?_
      refine zb_lstore E dX6_lookFrom_58 (by decide) (lv2 := [(7, .long (((v_costs (ix x2) (ix x6)) - (v_rowPrices (ix x2))) - (v_columnPrices (ix x6)))), (0, .ref (C.X.1 + 13)), (1, .int a1), (2, .int x2), (3, .int x3), (4, .long x4), (6, .int x6)]) rfl ?_
      refine zb_lload E dX6_lookFrom_60 0 rfl ?_
      refine zb_aload_n E dX6_lookFrom_62 1 rfl rfl ?_
      refine zb_get E 13 (by decide) (zF_13 C.X) rfl zin6 3 (by decide) zw_63 (v := .ref (C.X.1 + 28)) rfl dX6_lookFrom_63 ?_
      refine zb_iload E dX6_lookFrom_66 6 rfl ?_
      refine zb_lald E 28 (by decide) zF_28 (f := v_gaps) rfl (ib_in g2) dX6_lookFrom_68 ?_
      refine zb_lcmp E dX6_lookFrom_69 ?_
      refine zb_if_ge E dX6_lookFrom_70 (tgt := 90) rfl (fun hc => ?_) (fun hc => ?_)
      · have h := if_t h hc
        refine zb_sub [1, 2, 3, 4, 5, 6] rfl ?_
        exact c_X6_lookFrom_b90 N a1 v_columnPrices e_v_columnPrices v_costs e_v_costs v_isReached e_v_isReached v_rowOf e_v_rowOf v_rowPrices e_v_rowPrices rr y_v_cameFrom y_v_gaps E hQ x2 x3 x4 x6 v_cameFrom v_gaps self ih h
      · have h := if_f h hc
        refine zb_aload_n E dX6_lookFrom_73 1 rfl rfl ?_
        refine zb_get E 13 (by decide) (zF_13 C.X) rfl zin6 3 (by decide) zw_63 (v := .ref (C.X.1 + 28)) rfl dX6_lookFrom_74 ?_
        refine zb_iload E dX6_lookFrom_77 6 rfl ?_
        refine zb_lload E dX6_lookFrom_79 0 rfl ?_
        refine zb_last E 28 (by decide) zF_28 (f := v_gaps) rfl (ib_in g2) dX6_lookFrom_81 (J2 := (va_up J 28 (vp_updL v_gaps (ix x6) (((v_costs (ix x2) (ix x6)) - (v_rowPrices (ix x2))) - (v_columnPrices (ix x6)))))) zn1 ?_
        refine zb_aload_n E dX6_lookFrom_82 1 rfl rfl ?_
        refine zb_get E 13 (by decide) (zF_13 C.X) rfl zin6 5 (by decide) zw_65 (v := .ref (C.X.1 + 30)) rfl dX6_lookFrom_83 ?_
        refine zb_iload E dX6_lookFrom_86 6 rfl ?_
        refine zb_iload_n E dX6_lookFrom_88 2 rfl rfl ?_
        refine zb_iast E 30 (by decide) zF_30 (f := v_cameFrom) rfl (ib_in g2) dX6_lookFrom_89 (I2 := (va_up I 30 (upd v_cameFrom (ix x6) a1))) zn1 ?_
        refine zb_sub [1, 2, 3, 4, 5, 6] rfl ?_
        exact c_X6_lookFrom_b90 N a1 v_columnPrices e_v_columnPrices v_costs e_v_costs v_isReached e_v_isReached v_rowOf e_v_rowOf v_rowPrices e_v_rowPrices rr y_v_cameFrom y_v_gaps E hQ x2 x3 x4 x6 (upd v_cameFrom (ix x6) a1) (vp_updL v_gaps (ix x6) (((v_costs (ix x2) (ix x6)) - (v_rowPrices (ix x2))) - (v_columnPrices (ix x6)))) self ih h
theorem c_X6_lookFrom_0 {C : zC} {I : Nat → Nat → Int32} {J : Nat → Nat → Int64} {Rr : Nat → Nat → Option Nat} {D : zD} (N : Nat) (a1 : Int32) (v_columnPrices : (Nat → Int64)) (e_v_columnPrices : J 27 = v_columnPrices) (v_costs : (Nat → Nat → Int64)) (e_v_costs : ∀ q, q < 11 → J (15 + q) = v_costs q) (v_isReached : (Nat → Int32)) (e_v_isReached : I 31 = v_isReached) (v_rowOf : (Nat → Int32)) (e_v_rowOf : I 29 = v_rowOf) (v_rowPrices : (Nat → Int64)) (e_v_rowPrices : J 26 = v_rowPrices) (rr : Int32) (y_v_cameFrom : (Nat → Int32)) (y_v_gaps : (Nat → Int64)) (E : zE C RX6 cX6_lookFrom 9 (some .int) ({ frames := 0, cells := 0, slots := 0, locals := 0 } : Room)) (hQ : C.Q = zQi C ({ frames := 0, cells := 0, slots := 0, locals := 0 } : Room) rr ((va_up I 30 y_v_cameFrom), (va_up J 28 y_v_gaps), Rr, D)) (v_cameFrom : (Nat → Int32)) (v_gaps : (Nat → Int64)) (h : pMatcher_lookFrom N a1 v_cameFrom v_columnPrices v_costs v_gaps v_isReached v_rowOf v_rowPrices = some (rr, y_v_cameFrom, y_v_gaps)) : zB C (0, 0) 0 [(0, .ref (C.X.1 + 13)), (1, .int a1)] [] ((va_up I 30 v_cameFrom), (va_up J 28 v_gaps), Rr, D) := by
  refine zb_aload_n E dX6_lookFrom_0 0 rfl rfl ?_
  refine zb_get E 13 (by decide) (zF_13 C.X) rfl zin6 4 (by decide) zw_64 (v := .ref (C.X.1 + 29)) rfl dX6_lookFrom_1 ?_
  refine zb_iload_n E dX6_lookFrom_4 1 rfl rfl ?_
  obtain ⟨g1, h⟩ := gd_s h
  refine zb_iald E 29 (by decide) zF_29 (f := v_rowOf) (by exact e_v_rowOf) (ib_in g1) dX6_lookFrom_5 ?_
  refine zb_istore_n E dX6_lookFrom_6 rfl (by decide) (lv2 := [(2, .int (v_rowOf (ix a1))), (0, .ref (C.X.1 + 13)), (1, .int a1)]) rfl ?_
  refine zb_iconst E dX6_lookFrom_7 (v := 0) rfl ?_
  refine zb_istore_n E dX6_lookFrom_8 rfl (by decide) (lv2 := [(3, .int 0), (2, .int (v_rowOf (ix a1))), (0, .ref (C.X.1 + 13)), (1, .int a1)]) rfl ?_
  refine zb_ldc2 E dX6_lookFrom_9 (v := 1152921504606846976) zw_591 ?_
  refine zb_lstore E dX6_lookFrom_12 (by decide) (lv2 := [(4, .long 1152921504606846976), (3, .int 0), (2, .int (v_rowOf (ix a1))), (0, .ref (C.X.1 + 13)), (1, .int a1)]) rfl ?_
  refine zb_iconst E dX6_lookFrom_14 (v := 1) rfl ?_
  refine zb_istore E dX6_lookFrom_15 (by decide) (lv2 := [(6, .int 1), (4, .long 1152921504606846976), (3, .int 0), (2, .int (v_rowOf (ix a1))), (0, .ref (C.X.1 + 13)), (1, .int a1)]) rfl ?_
  refine zb_sub [4, 5, 3, 2, 1, 0] rfl ?_
  exact c_X6_lookFrom_b17 N a1 v_columnPrices e_v_columnPrices v_costs e_v_costs v_isReached e_v_isReached v_rowOf e_v_rowOf v_rowPrices e_v_rowPrices rr y_v_cameFrom y_v_gaps E hQ (v_rowOf (ix a1)) _ 0 1152921504606846976 1 v_cameFrom v_gaps h
theorem c_X6_lookFrom {l : Launch} {X : zX} {I : Nat → Nat → Int32} {J : Nat → Nat → Int64} {Rr : Nat → Nat → Option Nat} {D : zD} {N : Nat} {a1 : Int32} (v_columnPrices : (Nat → Int64)) (e_v_columnPrices : J 27 = v_columnPrices) (v_costs : (Nat → Nat → Int64)) (e_v_costs : ∀ q, q < 11 → J (15 + q) = v_costs q) (v_isReached : (Nat → Int32)) (e_v_isReached : I 31 = v_isReached) (v_rowOf : (Nat → Int32)) (e_v_rowOf : I 29 = v_rowOf) (v_rowPrices : (Nat → Int64)) (e_v_rowPrices : J 26 = v_rowPrices) (v_cameFrom : (Nat → Int32)) (e_v_cameFrom : I 30 = v_cameFrom) (v_gaps : (Nat → Int64)) (e_v_gaps : J 28 = v_gaps) {rr : Int32} {y_v_cameFrom : (Nat → Int32)} {y_v_gaps : (Nat → Int64)} (h : pMatcher_lookFrom N a1 v_cameFrom v_columnPrices v_costs v_gaps v_isReached v_rowOf v_rowPrices = some (rr, y_v_cameFrom, y_v_gaps)) : zMi l yX6_lookFrom cX6_lookFrom 9 (some .int) ({ frames := 0, cells := 0, slots := 0, locals := 0 } : Room) X [.ref (X.1 + 13), .int a1] (I, J, Rr, D) rr ((va_up I 30 y_v_cameFrom), (va_up J 28 y_v_gaps), Rr, D) := by
  refine zMi.of (by decide) (Nat.le_of_ble_eq_true rfl) (fun C E hl hX hQ => ?_)
  subst hl
  subst hX
  have eI0 : (va_up I 30 v_cameFrom) = I := by rw [zup_idE e_v_cameFrom]
  have eJ0 : (va_up J 28 v_gaps) = J := by rw [zup_idE e_v_gaps]
  refine zb_S (S2 := ((va_up I 30 v_cameFrom), (va_up J 28 v_gaps), Rr, D)) (zS_eq eI0.symm eJ0.symm) ?_
  exact c_X6_lookFrom_0 N a1 v_columnPrices e_v_columnPrices v_costs e_v_costs v_isReached e_v_isReached v_rowOf e_v_rowOf v_rowPrices e_v_rowPrices rr y_v_cameFrom y_v_gaps E hQ v_cameFrom v_gaps h
-- ChequeredCloth$Matcher.shiftPrices
theorem dX6_shiftPrices_0 : decode cX6_shiftPrices 0 = .ok (.iconst 0, 1) := by decide +kernel
theorem dX6_shiftPrices_1 : decode cX6_shiftPrices 1 = .ok (.istore_n 3, 1) := by decide +kernel
theorem dX6_shiftPrices_2 : decode cX6_shiftPrices 2 = .ok (.iload_n 3, 1) := by decide +kernel
theorem dX6_shiftPrices_3 : decode cX6_shiftPrices 3 = .ok (.bipush 20, 2) := by decide +kernel
theorem dX6_shiftPrices_5 : decode cX6_shiftPrices 5 = .ok (.if_icmp .gt 56, 3) := by decide +kernel
theorem dX6_shiftPrices_8 : decode cX6_shiftPrices 8 = .ok (.aload_n 0, 1) := by decide +kernel
theorem dX6_shiftPrices_9 : decode cX6_shiftPrices 9 = .ok (.getfield 33, 3) := by decide +kernel
theorem dX6_shiftPrices_12 : decode cX6_shiftPrices 12 = .ok (.iload_n 3, 1) := by decide +kernel
theorem dX6_shiftPrices_13 : decode cX6_shiftPrices 13 = .ok (.baload, 1) := by decide +kernel
theorem dX6_shiftPrices_14 : decode cX6_shiftPrices 14 = .ok (.ifCond .eq 31, 3) := by decide +kernel
theorem dX6_shiftPrices_17 : decode cX6_shiftPrices 17 = .ok (.aload_n 0, 1) := by decide +kernel
theorem dX6_shiftPrices_18 : decode cX6_shiftPrices 18 = .ok (.getfield 16, 3) := by decide +kernel
theorem dX6_shiftPrices_21 : decode cX6_shiftPrices 21 = .ok (.aload_n 0, 1) := by decide +kernel
theorem dX6_shiftPrices_22 : decode cX6_shiftPrices 22 = .ok (.getfield 26, 3) := by decide +kernel
theorem dX6_shiftPrices_25 : decode cX6_shiftPrices 25 = .ok (.iload_n 3, 1) := by decide +kernel
theorem dX6_shiftPrices_26 : decode cX6_shiftPrices 26 = .ok (.iaload, 1) := by decide +kernel
theorem dX6_shiftPrices_27 : decode cX6_shiftPrices 27 = .ok (.dup2, 1) := by decide +kernel
theorem dX6_shiftPrices_28 : decode cX6_shiftPrices 28 = .ok (.laload, 1) := by decide +kernel
theorem dX6_shiftPrices_29 : decode cX6_shiftPrices 29 = .ok (.lload_n 1, 1) := by decide +kernel
theorem dX6_shiftPrices_30 : decode cX6_shiftPrices 30 = .ok (.ladd, 1) := by decide +kernel
theorem dX6_shiftPrices_31 : decode cX6_shiftPrices 31 = .ok (.lastore, 1) := by decide +kernel
theorem dX6_shiftPrices_32 : decode cX6_shiftPrices 32 = .ok (.aload_n 0, 1) := by decide +kernel
theorem dX6_shiftPrices_33 : decode cX6_shiftPrices 33 = .ok (.getfield 20, 3) := by decide +kernel
theorem dX6_shiftPrices_36 : decode cX6_shiftPrices 36 = .ok (.iload_n 3, 1) := by decide +kernel
theorem dX6_shiftPrices_37 : decode cX6_shiftPrices 37 = .ok (.dup2, 1) := by decide +kernel
theorem dX6_shiftPrices_38 : decode cX6_shiftPrices 38 = .ok (.laload, 1) := by decide +kernel
theorem dX6_shiftPrices_39 : decode cX6_shiftPrices 39 = .ok (.lload_n 1, 1) := by decide +kernel
theorem dX6_shiftPrices_40 : decode cX6_shiftPrices 40 = .ok (.lsub, 1) := by decide +kernel
theorem dX6_shiftPrices_41 : decode cX6_shiftPrices 41 = .ok (.lastore, 1) := by decide +kernel
theorem dX6_shiftPrices_42 : decode cX6_shiftPrices 42 = .ok (.goto 13, 3) := by decide +kernel
theorem dX6_shiftPrices_45 : decode cX6_shiftPrices 45 = .ok (.aload_n 0, 1) := by decide +kernel
theorem dX6_shiftPrices_46 : decode cX6_shiftPrices 46 = .ok (.getfield 23, 3) := by decide +kernel
theorem dX6_shiftPrices_49 : decode cX6_shiftPrices 49 = .ok (.iload_n 3, 1) := by decide +kernel
theorem dX6_shiftPrices_50 : decode cX6_shiftPrices 50 = .ok (.dup2, 1) := by decide +kernel
theorem dX6_shiftPrices_51 : decode cX6_shiftPrices 51 = .ok (.laload, 1) := by decide +kernel
theorem dX6_shiftPrices_52 : decode cX6_shiftPrices 52 = .ok (.lload_n 1, 1) := by decide +kernel
theorem dX6_shiftPrices_53 : decode cX6_shiftPrices 53 = .ok (.lsub, 1) := by decide +kernel
theorem dX6_shiftPrices_54 : decode cX6_shiftPrices 54 = .ok (.lastore, 1) := by decide +kernel
theorem dX6_shiftPrices_55 : decode cX6_shiftPrices 55 = .ok (.iinc 3 1, 3) := by decide +kernel
theorem dX6_shiftPrices_58 : decode cX6_shiftPrices 58 = .ok (.goto (-56), 3) := by decide +kernel
theorem dX6_shiftPrices_61 : decode cX6_shiftPrices 61 = .ok (.return_, 1) := by decide +kernel
theorem zy_X6_shiftPrices : zYv yX6_shiftPrices cX6_shiftPrices 4 none 1 := ⟨zw_598, zws_9, zw_4, zw_599, by decide, by decide, by decide⟩
theorem c_X6_shiftPrices_b2 {C : zC} {I : Nat → Nat → Int32} {J : Nat → Nat → Int64} {Rr : Nat → Nat → Option Nat} {D : zD} (N : Nat) (a1 : Int64) (v_isReached : (Nat → Int32)) (e_v_isReached : I 31 = v_isReached) (v_rowOf : (Nat → Int32)) (e_v_rowOf : I 29 = v_rowOf) (y_v_columnPrices : (Nat → Int64)) (y_v_gaps : (Nat → Int64)) (y_v_rowPrices : (Nat → Int64)) (E : zE C RX6 cX6_shiftPrices 4 none ({ frames := 0, cells := 0, slots := 0, locals := 0 } : Room)) (hQ : C.Q = zQv C ({ frames := 0, cells := 0, slots := 0, locals := 0 } : Room) (I, (va_up (va_up (va_up J 26 y_v_rowPrices) 27 y_v_columnPrices) 28 y_v_gaps), Rr, D))  : ∀ (n9 : Nat) (x3 : Int32) (v_columnPrices : (Nat → Int64)) (v_gaps : (Nat → Int64)) (v_rowPrices : (Nat → Int64)), pMatcher_shiftPrices_b2 N a1 v_isReached v_rowOf n9 x3 v_columnPrices v_gaps v_rowPrices = some (y_v_columnPrices, y_v_gaps, y_v_rowPrices) → zB C (0, 0) 2 [(0, .ref (C.X.1 + 13)), (1, .long a1), (3, .int x3)] [] (I, (va_up (va_up (va_up J 26 v_rowPrices) 27 v_columnPrices) 28 v_gaps), Rr, D) := by
  refine zlp4_ind (P := fun (x3 : Int32) (v_columnPrices : (Nat → Int64)) (v_gaps : (Nat → Int64)) (v_rowPrices : (Nat → Int64)) => zB C (0, 0) 2 [(0, .ref (C.X.1 + 13)), (1, .long a1), (3, .int x3)] [] (I, (va_up (va_up (va_up J 26 v_rowPrices) 27 v_columnPrices) 28 v_gaps), Rr, D)) (fun self ih => ?_)
  intro x3 v_columnPrices v_gaps v_rowPrices h
  refine zb_iload_n E dX6_shiftPrices_2 2 rfl rfl ?_
  refine zb_bipush E dX6_shiftPrices_3 (v := 20) rfl ?_
  refine zb_icmp_gt E dX6_shiftPrices_5 (tgt := 61) rfl (fun hc => ?_) (fun hc => ?_)
  · have h := if_t h hc
    obtain ⟨rfl, rfl, rfl⟩ := zinj3 h
    exact zb_vret E hQ rfl ⟨Nat.zero_le _, Nat.zero_le _⟩ dX6_shiftPrices_61
  · have h := if_f h hc
    refine zb_aload_n E dX6_shiftPrices_8 0 rfl rfl ?_
    refine zb_get E 13 (by decide) (zF_13 C.X) rfl zin6 6 (by decide) zw_66 (v := .ref (C.X.1 + 31)) rfl dX6_shiftPrices_9 ?_
    refine zb_iload_n E dX6_shiftPrices_12 2 rfl rfl ?_
    obtain ⟨g1, h⟩ := gd_s h
    refine zb_zald E 31 (by decide) zF_31 (f := v_isReached) (by exact e_v_isReached) (ib_in g1) dX6_shiftPrices_13 ?_
    refine zb_if_eq E dX6_shiftPrices_14 (tgt := 45) rfl (fun hc => ?_) (fun hc => ?_)
    · have h := if_t h hc
      refine zb_aload_n E dX6_shiftPrices_45 0 rfl rfl ?_
      refine zb_get E 13 (by decide) (zF_13 C.X) rfl zin6 3 (by decide) zw_63 (v := .ref (C.X.1 + 28)) rfl dX6_shiftPrices_46 ?_
      refine zb_iload_n E dX6_shiftPrices_49 2 rfl rfl ?_
      refine zb_dup2_11 E dX6_shiftPrices_50 rfl rfl ?_
      refine zb_lald E 28 (by decide) zF_28 (f := v_gaps) rfl (ib_in g1) dX6_shiftPrices_51 ?_
      refine zb_lload_n E dX6_shiftPrices_52 1 rfl rfl ?_
      refine zb_lsub E dX6_shiftPrices_53 ?_
      refine zb_last E 28 (by decide) zF_28 (f := v_gaps) rfl (ib_in g1) dX6_shiftPrices_54 (J2 := (va_up (va_up (va_up J 26 v_rowPrices) 27 v_columnPrices) 28 (vp_updL v_gaps (ix x3) ((v_gaps (ix x3)) - a1)))) zn1 ?_
      refine zb_iinc E dX6_shiftPrices_55 2 rfl (v := (x3 + 1)) rfl (by decide) (lv2 := [(3, .int (x3 + 1)), (0, .ref (C.X.1 + 13)), (1, .long a1)]) rfl ?_
      refine zb_goto E dX6_shiftPrices_58 (tgt := 2) rfl ?_
      refine zb_sub [1, 2, 0] rfl ?_
      exact ih (x3 + 1) v_columnPrices (vp_updL v_gaps (ix x3) ((v_gaps (ix x3)) - a1)) v_rowPrices h
    · have h := if_f h hc
      refine zb_aload_n E dX6_shiftPrices_17 0 rfl rfl ?_
      refine zb_get E 13 (by decide) (zF_13 C.X) rfl zin6 1 (by decide) zw_61 (v := .ref (C.X.1 + 26)) rfl dX6_shiftPrices_18 ?_
      refine zb_aload_n E dX6_shiftPrices_21 0 rfl rfl ?_
      refine zb_get E 13 (by decide) (zF_13 C.X) rfl zin6 4 (by decide) zw_64 (v := .ref (C.X.1 + 29)) rfl dX6_shiftPrices_22 ?_
      refine zb_iload_n E dX6_shiftPrices_25 2 rfl rfl ?_
      refine zb_iald E 29 (by decide) zF_29 (f := v_rowOf) (by exact e_v_rowOf) (ib_in g1) dX6_shiftPrices_26 ?_
      refine zb_dup2_11 E dX6_shiftPrices_27 rfl rfl ?_
      obtain ⟨g2, h⟩ := gd_s h
      refine zb_lald E 26 (by decide) zF_26 (f := v_rowPrices) rfl (ib_in g2) dX6_shiftPrices_28 ?_
      refine zb_lload_n E dX6_shiftPrices_29 1 rfl rfl ?_
      refine zb_ladd E dX6_shiftPrices_30 ?_
      refine zb_last E 26 (by decide) zF_26 (f := v_rowPrices) rfl (ib_in g2) dX6_shiftPrices_31 (J2 := (va_up (va_up (va_up J 26 (vp_updL v_rowPrices (ix (v_rowOf (ix x3))) ((v_rowPrices (ix (v_rowOf (ix x3)))) + a1))) 27 v_columnPrices) 28 v_gaps)) (zn3 (by decide : (28 : Nat) ≠ 26) (by decide : (27 : Nat) ≠ 26)) ?_
      refine zb_aload_n E dX6_shiftPrices_32 0 rfl rfl ?_
      refine zb_get E 13 (by decide) (zF_13 C.X) rfl zin6 2 (by decide) zw_62 (v := .ref (C.X.1 + 27)) rfl dX6_shiftPrices_33 ?_
      refine zb_iload_n E dX6_shiftPrices_36 2 rfl rfl ?_
      refine zb_dup2_11 E dX6_shiftPrices_37 rfl rfl ?_
      refine zb_lald E 27 (by decide) zF_27 (f := v_columnPrices) rfl (ib_in g1) dX6_shiftPrices_38 ?_
      refine zb_lload_n E dX6_shiftPrices_39 1 rfl rfl ?_
      refine zb_lsub E dX6_shiftPrices_40 ?_
      refine zb_last E 27 (by decide) zF_27 (f := v_columnPrices) rfl (ib_in g1) dX6_shiftPrices_41 (J2 := (va_up (va_up (va_up J 26 (vp_updL v_rowPrices (ix (v_rowOf (ix x3))) ((v_rowPrices (ix (v_rowOf (ix x3)))) + a1))) 27 (vp_updL v_columnPrices (ix x3) ((v_columnPrices (ix x3)) - a1))) 28 v_gaps)) (zn2 (by decide : (28 : Nat) ≠ 27)) ?_
      refine zb_goto E dX6_shiftPrices_42 (tgt := 55) rfl ?_
      refine zb_iinc E dX6_shiftPrices_55 2 rfl (v := (x3 + 1)) rfl (by decide) (lv2 := [(3, .int (x3 + 1)), (0, .ref (C.X.1 + 13)), (1, .long a1)]) rfl ?_
      refine zb_goto E dX6_shiftPrices_58 (tgt := 2) rfl ?_
      refine zb_sub [1, 2, 0] rfl ?_
      exact ih (x3 + 1) (vp_updL v_columnPrices (ix x3) ((v_columnPrices (ix x3)) - a1)) v_gaps (vp_updL v_rowPrices (ix (v_rowOf (ix x3))) ((v_rowPrices (ix (v_rowOf (ix x3)))) + a1)) h
theorem c_X6_shiftPrices_0 {C : zC} {I : Nat → Nat → Int32} {J : Nat → Nat → Int64} {Rr : Nat → Nat → Option Nat} {D : zD} (N : Nat) (a1 : Int64) (v_isReached : (Nat → Int32)) (e_v_isReached : I 31 = v_isReached) (v_rowOf : (Nat → Int32)) (e_v_rowOf : I 29 = v_rowOf) (y_v_columnPrices : (Nat → Int64)) (y_v_gaps : (Nat → Int64)) (y_v_rowPrices : (Nat → Int64)) (E : zE C RX6 cX6_shiftPrices 4 none ({ frames := 0, cells := 0, slots := 0, locals := 0 } : Room)) (hQ : C.Q = zQv C ({ frames := 0, cells := 0, slots := 0, locals := 0 } : Room) (I, (va_up (va_up (va_up J 26 y_v_rowPrices) 27 y_v_columnPrices) 28 y_v_gaps), Rr, D)) (v_columnPrices : (Nat → Int64)) (v_gaps : (Nat → Int64)) (v_rowPrices : (Nat → Int64)) (h : pMatcher_shiftPrices N a1 v_columnPrices v_gaps v_isReached v_rowOf v_rowPrices = some (y_v_columnPrices, y_v_gaps, y_v_rowPrices)) : zB C (0, 0) 0 [(0, .ref (C.X.1 + 13)), (1, .long a1)] [] (I, (va_up (va_up (va_up J 26 v_rowPrices) 27 v_columnPrices) 28 v_gaps), Rr, D) := by
  refine zb_iconst E dX6_shiftPrices_0 (v := 0) rfl ?_
  refine zb_istore_n E dX6_shiftPrices_1 rfl (by decide) (lv2 := [(3, .int 0), (0, .ref (C.X.1 + 13)), (1, .long a1)]) rfl ?_
  refine zb_sub [1, 2, 0] rfl ?_
  exact c_X6_shiftPrices_b2 N a1 v_isReached e_v_isReached v_rowOf e_v_rowOf y_v_columnPrices y_v_gaps y_v_rowPrices E hQ _ 0 v_columnPrices v_gaps v_rowPrices h
theorem c_X6_shiftPrices {l : Launch} {X : zX} {I : Nat → Nat → Int32} {J : Nat → Nat → Int64} {Rr : Nat → Nat → Option Nat} {D : zD} {N : Nat} {a1 : Int64} (v_isReached : (Nat → Int32)) (e_v_isReached : I 31 = v_isReached) (v_rowOf : (Nat → Int32)) (e_v_rowOf : I 29 = v_rowOf) (v_columnPrices : (Nat → Int64)) (e_v_columnPrices : J 27 = v_columnPrices) (v_gaps : (Nat → Int64)) (e_v_gaps : J 28 = v_gaps) (v_rowPrices : (Nat → Int64)) (e_v_rowPrices : J 26 = v_rowPrices) {y_v_columnPrices : (Nat → Int64)} {y_v_gaps : (Nat → Int64)} {y_v_rowPrices : (Nat → Int64)} (h : pMatcher_shiftPrices N a1 v_columnPrices v_gaps v_isReached v_rowOf v_rowPrices = some (y_v_columnPrices, y_v_gaps, y_v_rowPrices)) : zMv l yX6_shiftPrices cX6_shiftPrices 4 none ({ frames := 0, cells := 0, slots := 0, locals := 0 } : Room) X [.ref (X.1 + 13), .long a1] (I, J, Rr, D) (I, (va_up (va_up (va_up J 26 y_v_rowPrices) 27 y_v_columnPrices) 28 y_v_gaps), Rr, D) := by
  refine zMv.of (by decide) (Nat.le_of_ble_eq_true rfl) (fun C E hl hX hQ => ?_)
  subst hl
  subst hX
  have eI0 : I = I := rfl
  have eJ0 : (va_up (va_up (va_up J 26 v_rowPrices) 27 v_columnPrices) 28 v_gaps) = J := by rw [zup_idE e_v_rowPrices, zup_idE e_v_columnPrices, zup_idE e_v_gaps]
  refine zb_S (S2 := (I, (va_up (va_up (va_up J 26 v_rowPrices) 27 v_columnPrices) 28 v_gaps), Rr, D)) (zS_eq eI0.symm eJ0.symm) ?_
  exact c_X6_shiftPrices_0 N a1 v_isReached e_v_isReached v_rowOf e_v_rowOf y_v_columnPrices y_v_gaps y_v_rowPrices E hQ v_columnPrices v_gaps v_rowPrices h
-- ChequeredCloth$Matcher.freeColumnFor
theorem dX6_freeColumnFor_0 : decode cX6_freeColumnFor 0 = .ok (.aload_n 0, 1) := by decide +kernel
theorem dX6_freeColumnFor_1 : decode cX6_freeColumnFor 1 = .ok (.getfield 23, 3) := by decide +kernel
theorem dX6_freeColumnFor_4 : decode cX6_freeColumnFor 4 = .ok (.ldc2_w 67, 3) := by decide +kernel
theorem dX6_freeColumnFor_7 : decode cX6_freeColumnFor 7 = .ok (.invokestatic 40, 3) := by decide +kernel
theorem dX6_freeColumnFor_10 : decode cX6_freeColumnFor 10 = .ok (.iconst 0, 1) := by decide +kernel
theorem dX6_freeColumnFor_11 : decode cX6_freeColumnFor 11 = .ok (.istore_n 2, 1) := by decide +kernel
theorem dX6_freeColumnFor_12 : decode cX6_freeColumnFor 12 = .ok (.iload_n 2, 1) := by decide +kernel
theorem dX6_freeColumnFor_13 : decode cX6_freeColumnFor 13 = .ok (.bipush 20, 2) := by decide +kernel
theorem dX6_freeColumnFor_15 : decode cX6_freeColumnFor 15 = .ok (.if_icmp .gt 16, 3) := by decide +kernel
theorem dX6_freeColumnFor_18 : decode cX6_freeColumnFor 18 = .ok (.aload_n 0, 1) := by decide +kernel
theorem dX6_freeColumnFor_19 : decode cX6_freeColumnFor 19 = .ok (.getfield 33, 3) := by decide +kernel
theorem dX6_freeColumnFor_22 : decode cX6_freeColumnFor 22 = .ok (.iload_n 2, 1) := by decide +kernel
theorem dX6_freeColumnFor_23 : decode cX6_freeColumnFor 23 = .ok (.iconst 0, 1) := by decide +kernel
theorem dX6_freeColumnFor_24 : decode cX6_freeColumnFor 24 = .ok (.bastore, 1) := by decide +kernel
theorem dX6_freeColumnFor_25 : decode cX6_freeColumnFor 25 = .ok (.iinc 2 1, 3) := by decide +kernel
theorem dX6_freeColumnFor_28 : decode cX6_freeColumnFor 28 = .ok (.goto (-16), 3) := by decide +kernel
theorem dX6_freeColumnFor_31 : decode cX6_freeColumnFor 31 = .ok (.aload_n 0, 1) := by decide +kernel
theorem dX6_freeColumnFor_32 : decode cX6_freeColumnFor 32 = .ok (.getfield 26, 3) := by decide +kernel
theorem dX6_freeColumnFor_35 : decode cX6_freeColumnFor 35 = .ok (.iconst 0, 1) := by decide +kernel
theorem dX6_freeColumnFor_36 : decode cX6_freeColumnFor 36 = .ok (.iload_n 1, 1) := by decide +kernel
theorem dX6_freeColumnFor_37 : decode cX6_freeColumnFor 37 = .ok (.iastore, 1) := by decide +kernel
theorem dX6_freeColumnFor_38 : decode cX6_freeColumnFor 38 = .ok (.iconst 0, 1) := by decide +kernel
theorem dX6_freeColumnFor_39 : decode cX6_freeColumnFor 39 = .ok (.istore_n 2, 1) := by decide +kernel
theorem dX6_freeColumnFor_40 : decode cX6_freeColumnFor 40 = .ok (.iconst 0, 1) := by decide +kernel
theorem dX6_freeColumnFor_41 : decode cX6_freeColumnFor 41 = .ok (.istore_n 3, 1) := by decide +kernel
theorem dX6_freeColumnFor_42 : decode cX6_freeColumnFor 42 = .ok (.iload_n 3, 1) := by decide +kernel
theorem dX6_freeColumnFor_43 : decode cX6_freeColumnFor 43 = .ok (.bipush 20, 2) := by decide +kernel
theorem dX6_freeColumnFor_45 : decode cX6_freeColumnFor 45 = .ok (.if_icmp .gt 46, 3) := by decide +kernel
theorem dX6_freeColumnFor_48 : decode cX6_freeColumnFor 48 = .ok (.aload_n 0, 1) := by decide +kernel
theorem dX6_freeColumnFor_49 : decode cX6_freeColumnFor 49 = .ok (.getfield 26, 3) := by decide +kernel
theorem dX6_freeColumnFor_52 : decode cX6_freeColumnFor 52 = .ok (.iload_n 2, 1) := by decide +kernel
theorem dX6_freeColumnFor_53 : decode cX6_freeColumnFor 53 = .ok (.iaload, 1) := by decide +kernel
theorem dX6_freeColumnFor_54 : decode cX6_freeColumnFor 54 = .ok (.ifCond .eq 37, 3) := by decide +kernel
theorem dX6_freeColumnFor_57 : decode cX6_freeColumnFor 57 = .ok (.aload_n 0, 1) := by decide +kernel
theorem dX6_freeColumnFor_58 : decode cX6_freeColumnFor 58 = .ok (.getfield 33, 3) := by decide +kernel
theorem dX6_freeColumnFor_61 : decode cX6_freeColumnFor 61 = .ok (.iload_n 2, 1) := by decide +kernel
theorem dX6_freeColumnFor_62 : decode cX6_freeColumnFor 62 = .ok (.iconst 1, 1) := by decide +kernel
theorem dX6_freeColumnFor_63 : decode cX6_freeColumnFor 63 = .ok (.bastore, 1) := by decide +kernel
theorem dX6_freeColumnFor_64 : decode cX6_freeColumnFor 64 = .ok (.aload_n 0, 1) := by decide +kernel
theorem dX6_freeColumnFor_65 : decode cX6_freeColumnFor 65 = .ok (.iload_n 2, 1) := by decide +kernel
theorem dX6_freeColumnFor_66 : decode cX6_freeColumnFor 66 = .ok (.invokevirtual 69, 3) := by decide +kernel
theorem dX6_freeColumnFor_69 : decode cX6_freeColumnFor 69 = .ok (.istore 4, 2) := by decide +kernel
theorem dX6_freeColumnFor_71 : decode cX6_freeColumnFor 71 = .ok (.aload_n 0, 1) := by decide +kernel
theorem dX6_freeColumnFor_72 : decode cX6_freeColumnFor 72 = .ok (.aload_n 0, 1) := by decide +kernel
theorem dX6_freeColumnFor_73 : decode cX6_freeColumnFor 73 = .ok (.getfield 23, 3) := by decide +kernel
theorem dX6_freeColumnFor_76 : decode cX6_freeColumnFor 76 = .ok (.iload 4, 2) := by decide +kernel
theorem dX6_freeColumnFor_78 : decode cX6_freeColumnFor 78 = .ok (.laload, 1) := by decide +kernel
theorem dX6_freeColumnFor_79 : decode cX6_freeColumnFor 79 = .ok (.invokevirtual 72, 3) := by decide +kernel
theorem dX6_freeColumnFor_82 : decode cX6_freeColumnFor 82 = .ok (.iload 4, 2) := by decide +kernel
theorem dX6_freeColumnFor_84 : decode cX6_freeColumnFor 84 = .ok (.istore_n 2, 1) := by decide +kernel
theorem dX6_freeColumnFor_85 : decode cX6_freeColumnFor 85 = .ok (.iinc 3 1, 3) := by decide +kernel
theorem dX6_freeColumnFor_88 : decode cX6_freeColumnFor 88 = .ok (.goto (-46), 3) := by decide +kernel
theorem dX6_freeColumnFor_91 : decode cX6_freeColumnFor 91 = .ok (.iload_n 2, 1) := by decide +kernel
theorem dX6_freeColumnFor_92 : decode cX6_freeColumnFor 92 = .ok (.ireturn, 1) := by decide +kernel
theorem zy_X6_freeColumnFor : zYv yX6_freeColumnFor cX6_freeColumnFor 5 (some .int) 1 := ⟨zw_589, zws_7, zw_4, zw_590, by decide, by decide, by decide⟩
theorem c_X6_freeColumnFor_b12 {C : zC} {I : Nat → Nat → Int32} {J : Nat → Nat → Int64} {Rr : Nat → Nat → Option Nat} {D : zD} (N : Nat) (a1 : Int32) (v_costs : (Nat → Nat → Int64)) (e_v_costs : ∀ q, q < 11 → J (15 + q) = v_costs q) (rr : Int32) (y_v_cameFrom : (Nat → Int32)) (y_v_columnPrices : (Nat → Int64)) (y_v_gaps : (Nat → Int64)) (y_v_isReached : (Nat → Int32)) (y_v_rowOf : (Nat → Int32)) (y_v_rowPrices : (Nat → Int64)) (E : zE C RX6 cX6_freeColumnFor 5 (some .int) ({ frames := 1, cells := 0, slots := 0, locals := 28 } : Room)) (hQ : C.Q = zQi C ({ frames := 1, cells := 0, slots := 0, locals := 28 } : Room) rr ((va_up (va_up (va_up I 29 y_v_rowOf) 30 y_v_cameFrom) 31 y_v_isReached), (va_up (va_up (va_up J 26 y_v_rowPrices) 27 y_v_columnPrices) 28 y_v_gaps), Rr, D)) (v_cameFrom : (Nat → Int32)) (v_columnPrices : (Nat → Int64)) (v_gaps : (Nat → Int64)) (v_rowOf : (Nat → Int32)) (v_rowPrices : (Nat → Int64)) (k31 : (Nat → Int32) → Option R_pMatcher_freeColumnFor) (hk31 : ∀ (v_isReached : (Nat → Int32)), k31 v_isReached = some (rr, y_v_cameFrom, y_v_columnPrices, y_v_gaps, y_v_isReached, y_v_rowOf, y_v_rowPrices) → zB C (0, 0) 31 [(0, .ref (C.X.1 + 13)), (1, .int a1)] [] ((va_up (va_up (va_up I 29 v_rowOf) 30 v_cameFrom) 31 v_isReached), (va_up (va_up (va_up J 26 v_rowPrices) 27 v_columnPrices) 28 v_gaps), Rr, D)) : ∀ (n9 : Nat) (x2 : Int32) (v_isReached : (Nat → Int32)), pMatcher_freeColumnFor_b12 N a1 v_costs v_cameFrom v_columnPrices v_gaps v_rowOf v_rowPrices k31 n9 x2 v_isReached = some (rr, y_v_cameFrom, y_v_columnPrices, y_v_gaps, y_v_isReached, y_v_rowOf, y_v_rowPrices) → zB C (0, 0) 12 [(0, .ref (C.X.1 + 13)), (1, .int a1), (2, .int x2)] [] ((va_up (va_up (va_up I 29 v_rowOf) 30 v_cameFrom) 31 v_isReached), (va_up (va_up (va_up J 26 v_rowPrices) 27 v_columnPrices) 28 v_gaps), Rr, D) := by
  refine zlp2_ind (P := fun (x2 : Int32) (v_isReached : (Nat → Int32)) => zB C (0, 0) 12 [(0, .ref (C.X.1 + 13)), (1, .int a1), (2, .int x2)] [] ((va_up (va_up (va_up I 29 v_rowOf) 30 v_cameFrom) 31 v_isReached), (va_up (va_up (va_up J 26 v_rowPrices) 27 v_columnPrices) 28 v_gaps), Rr, D)) (fun self ih => ?_)
  intro x2 v_isReached h
  refine zb_iload_n E dX6_freeColumnFor_12 2 rfl rfl ?_
  refine zb_bipush E dX6_freeColumnFor_13 (v := 20) rfl ?_
  refine zb_icmp_gt E dX6_freeColumnFor_15 (tgt := 31) rfl (fun hc => ?_) (fun hc => ?_)
  · have h := if_t h hc
    refine zb_sub [0, 1] rfl ?_
    exact hk31 v_isReached h
  · have h := if_f h hc
    refine zb_aload_n E dX6_freeColumnFor_18 0 rfl rfl ?_
    refine zb_get E 13 (by decide) (zF_13 C.X) rfl zin6 6 (by decide) zw_66 (v := .ref (C.X.1 + 31)) rfl dX6_freeColumnFor_19 ?_
    refine zb_iload_n E dX6_freeColumnFor_22 2 rfl rfl ?_
    refine zb_iconst E dX6_freeColumnFor_23 (v := 0) rfl ?_
    obtain ⟨g1, h⟩ := gd_s h
    refine zb_zast E 31 (by decide) zF_31 (f := v_isReached) rfl (ib_in g1) dX6_freeColumnFor_24 (I2 := (va_up (va_up (va_up I 29 v_rowOf) 30 v_cameFrom) 31 (upd v_isReached (ix x2) 0))) zn1 ?_
    refine zb_iinc E dX6_freeColumnFor_25 2 rfl (v := (x2 + 1)) rfl (by decide) (lv2 := [(2, .int (x2 + 1)), (0, .ref (C.X.1 + 13)), (1, .int a1)]) rfl ?_
    refine zb_goto E dX6_freeColumnFor_28 (tgt := 12) rfl ?_
    refine zb_sub [1, 2, 0] rfl ?_
    exact ih (x2 + 1) (upd v_isReached (ix x2) 0) h
theorem c_X6_freeColumnFor_b42 {C : zC} {I : Nat → Nat → Int32} {J : Nat → Nat → Int64} {Rr : Nat → Nat → Option Nat} {D : zD} (N : Nat) (a1 : Int32) (v_costs : (Nat → Nat → Int64)) (e_v_costs : ∀ q, q < 11 → J (15 + q) = v_costs q) (rr : Int32) (y_v_cameFrom : (Nat → Int32)) (y_v_columnPrices : (Nat → Int64)) (y_v_gaps : (Nat → Int64)) (y_v_isReached : (Nat → Int32)) (y_v_rowOf : (Nat → Int32)) (y_v_rowPrices : (Nat → Int64)) (E : zE C RX6 cX6_freeColumnFor 5 (some .int) ({ frames := 1, cells := 0, slots := 0, locals := 28 } : Room)) (hQ : C.Q = zQi C ({ frames := 1, cells := 0, slots := 0, locals := 28 } : Room) rr ((va_up (va_up (va_up I 29 y_v_rowOf) 30 y_v_cameFrom) 31 y_v_isReached), (va_up (va_up (va_up J 26 y_v_rowPrices) 27 y_v_columnPrices) 28 y_v_gaps), Rr, D)) (v_rowOf : (Nat → Int32))  : ∀ (n9 : Nat) (x2 : Int32) (x3 : Int32) (v_cameFrom : (Nat → Int32)) (v_columnPrices : (Nat → Int64)) (v_gaps : (Nat → Int64)) (v_isReached : (Nat → Int32)) (v_rowPrices : (Nat → Int64)), pMatcher_freeColumnFor_b42 N a1 v_costs v_rowOf n9 x2 x3 v_cameFrom v_columnPrices v_gaps v_isReached v_rowPrices = some (rr, y_v_cameFrom, y_v_columnPrices, y_v_gaps, y_v_isReached, y_v_rowOf, y_v_rowPrices) → zB C (0, 0) 42 [(0, .ref (C.X.1 + 13)), (2, .int x2), (3, .int x3)] [] ((va_up (va_up (va_up I 29 v_rowOf) 30 v_cameFrom) 31 v_isReached), (va_up (va_up (va_up J 26 v_rowPrices) 27 v_columnPrices) 28 v_gaps), Rr, D) := by
  refine zlp7_ind (P := fun (x2 : Int32) (x3 : Int32) (v_cameFrom : (Nat → Int32)) (v_columnPrices : (Nat → Int64)) (v_gaps : (Nat → Int64)) (v_isReached : (Nat → Int32)) (v_rowPrices : (Nat → Int64)) => zB C (0, 0) 42 [(0, .ref (C.X.1 + 13)), (2, .int x2), (3, .int x3)] [] ((va_up (va_up (va_up I 29 v_rowOf) 30 v_cameFrom) 31 v_isReached), (va_up (va_up (va_up J 26 v_rowPrices) 27 v_columnPrices) 28 v_gaps), Rr, D)) (fun self ih => ?_)
  intro x2 x3 v_cameFrom v_columnPrices v_gaps v_isReached v_rowPrices h
  refine zb_iload_n E dX6_freeColumnFor_42 2 rfl rfl ?_
  refine zb_bipush E dX6_freeColumnFor_43 (v := 20) rfl ?_
  refine zb_icmp_gt E dX6_freeColumnFor_45 (tgt := 91) rfl (fun hc => ?_) (fun hc => ?_)
  · have h := if_t h hc
    refine zb_iload_n E dX6_freeColumnFor_91 1 rfl rfl ?_
    obtain ⟨rfl, rfl, rfl, rfl, rfl, rfl, rfl⟩ := zinj7 h
    exact zb_iret E hQ rfl ⟨Nat.zero_le _, Nat.zero_le _⟩ dX6_freeColumnFor_92
  · have h := if_f h hc
    refine zb_aload_n E dX6_freeColumnFor_48 0 rfl rfl ?_
    refine zb_get E 13 (by decide) (zF_13 C.X) rfl zin6 4 (by decide) zw_64 (v := .ref (C.X.1 + 29)) rfl dX6_freeColumnFor_49 ?_
    refine zb_iload_n E dX6_freeColumnFor_52 1 rfl rfl ?_
    obtain ⟨g2, h⟩ := gd_s h
    refine zb_iald E 29 (by decide) zF_29 (f := v_rowOf) rfl (ib_in g2) dX6_freeColumnFor_53 ?_
    refine zb_if_eq E dX6_freeColumnFor_54 (tgt := 91) rfl (fun hc => ?_) (fun hc => ?_)
    · have h := if_t h hc
      refine zb_iload_n E dX6_freeColumnFor_91 1 rfl rfl ?_
      obtain ⟨rfl, rfl, rfl, rfl, rfl, rfl, rfl⟩ := zinj7 h
      exact zb_iret E hQ rfl ⟨Nat.zero_le _, Nat.zero_le _⟩ dX6_freeColumnFor_92
    · have h := if_f h hc
      refine zb_aload_n E dX6_freeColumnFor_57 0 rfl rfl ?_
      refine zb_get E 13 (by decide) (zF_13 C.X) rfl zin6 6 (by decide) zw_66 (v := .ref (C.X.1 + 31)) rfl dX6_freeColumnFor_58 ?_
      refine zb_iload_n E dX6_freeColumnFor_61 1 rfl rfl ?_
      refine zb_iconst E dX6_freeColumnFor_62 (v := 1) rfl ?_
      refine zb_zast E 31 (by decide) zF_31 (f := v_isReached) rfl (ib_in g2) dX6_freeColumnFor_63 (I2 := (va_up (va_up (va_up I 29 v_rowOf) 30 v_cameFrom) 31 (upd v_isReached (ix x2) 1))) zn1 ?_
      refine zb_aload_n E dX6_freeColumnFor_64 0 rfl rfl ?_
      refine zb_iload_n E dX6_freeColumnFor_65 1 rfl rfl ?_
      obtain ⟨rc3, v_cameFrom_c3, v_gaps_c3, hc_66, h⟩ := bd3_s h
      refine zb_cVi E [.int x2] 13 zy_X6_lookFrom zw_592 (by decide) (zF_13 _ _ _ _) rfl (c_X6_lookFrom v_columnPrices rfl v_costs (by exact fun q hq => (zup_n (zgne hq (by decide : (28 : Nat) < 15 ∨ 26 ≤ (28 : Nat)))).trans ((zup_n (zgne hq (by decide : (27 : Nat) < 15 ∨ 26 ≤ (27 : Nat)))).trans ((zup_n (zgne hq (by decide : (26 : Nat) < 15 ∨ 26 ≤ (26 : Nat)))).trans (e_v_costs _ hq)))) (upd v_isReached (ix x2) 1) rfl v_rowOf rfl v_rowPrices rfl v_cameFrom rfl v_gaps rfl hc_66) (by decide) rfl rfl (by first | decide | simp [Value.category]) dX6_freeColumnFor_66 (cs2 := (0, 0)) rfl ?_
      refine zb_S (S2 := ((va_up (va_up (va_up I 29 v_rowOf) 30 v_cameFrom_c3) 31 (upd v_isReached (ix x2) 1)), (va_up (va_up (va_up J 26 v_rowPrices) 27 v_columnPrices) 28 v_gaps_c3), Rr, D)) (zS_eq (zn2 (by decide : (31 : Nat) ≠ 30)) zn1) ?_
      refine zb_istore E dX6_freeColumnFor_69 (by decide) (lv2 := [(4, .int rc3), (0, .ref (C.X.1 + 13)), (2, .int x2), (3, .int x3)]) rfl ?_
      refine zb_aload_n E dX6_freeColumnFor_71 1 rfl rfl ?_
      refine zb_aload_n E dX6_freeColumnFor_72 1 rfl rfl ?_
      refine zb_get E 13 (by decide) (zF_13 C.X) rfl zin6 3 (by decide) zw_63 (v := .ref (C.X.1 + 28)) rfl dX6_freeColumnFor_73 ?_
      refine zb_iload E dX6_freeColumnFor_76 0 rfl ?_
      obtain ⟨g4, h⟩ := gd_s h
      refine zb_lald E 28 (by decide) zF_28 (f := v_gaps_c3) rfl (ib_in g4) dX6_freeColumnFor_78 ?_
      obtain ⟨v_columnPrices_c5, v_gaps_c5, v_rowPrices_c5, hc_79, h⟩ := bd3_s h
      refine zb_cVv E [.long (v_gaps_c3 (ix rc3))] 13 zy_X6_shiftPrices zw_596 (by decide) (zF_13 _ _ _ _) rfl (c_X6_shiftPrices (upd v_isReached (ix x2) 1) rfl v_rowOf rfl v_columnPrices rfl v_gaps_c3 rfl v_rowPrices rfl hc_79) (by decide) rfl rfl (by first | decide | simp [Value.category]) dX6_freeColumnFor_79 (cs2 := (0, 0)) rfl ?_
      refine zb_S (S2 := ((va_up (va_up (va_up I 29 v_rowOf) 30 v_cameFrom_c3) 31 (upd v_isReached (ix x2) 1)), (va_up (va_up (va_up J 26 v_rowPrices_c5) 27 v_columnPrices_c5) 28 v_gaps_c5), Rr, D)) (zS_eq rfl ((zcgF ((zcgF (zn3 (by decide : (28 : Nat) ≠ 26) (by decide : (27 : Nat) ≠ 26))).trans (zn2 (by decide : (28 : Nat) ≠ 27)))).trans zn1)) ?_
      refine zb_iload E dX6_freeColumnFor_82 0 rfl ?_
      refine zb_istore_n E dX6_freeColumnFor_84 rfl (by decide) (lv2 := [(2, .int rc3), (4, .int rc3), (0, .ref (C.X.1 + 13)), (3, .int x3)]) rfl ?_
      refine zb_iinc E dX6_freeColumnFor_85 3 rfl (v := (x3 + 1)) rfl (by decide) (lv2 := [(3, .int (x3 + 1)), (2, .int rc3), (4, .int rc3), (0, .ref (C.X.1 + 13))]) rfl ?_
      refine zb_goto E dX6_freeColumnFor_88 (tgt := 42) rfl ?_
      refine zb_sub [3, 1, 0] rfl ?_
      exact ih rc3 (x3 + 1) v_cameFrom_c3 v_columnPrices_c5 v_gaps_c5 (upd v_isReached (ix x2) 1) v_rowPrices_c5 h
theorem c_X6_freeColumnFor_b31 {C : zC} {I : Nat → Nat → Int32} {J : Nat → Nat → Int64} {Rr : Nat → Nat → Option Nat} {D : zD} (N : Nat) (a1 : Int32) (v_costs : (Nat → Nat → Int64)) (e_v_costs : ∀ q, q < 11 → J (15 + q) = v_costs q) (rr : Int32) (y_v_cameFrom : (Nat → Int32)) (y_v_columnPrices : (Nat → Int64)) (y_v_gaps : (Nat → Int64)) (y_v_isReached : (Nat → Int32)) (y_v_rowOf : (Nat → Int32)) (y_v_rowPrices : (Nat → Int64)) (E : zE C RX6 cX6_freeColumnFor 5 (some .int) ({ frames := 1, cells := 0, slots := 0, locals := 28 } : Room)) (hQ : C.Q = zQi C ({ frames := 1, cells := 0, slots := 0, locals := 28 } : Room) rr ((va_up (va_up (va_up I 29 y_v_rowOf) 30 y_v_cameFrom) 31 y_v_isReached), (va_up (va_up (va_up J 26 y_v_rowPrices) 27 y_v_columnPrices) 28 y_v_gaps), Rr, D)) (v_cameFrom : (Nat → Int32)) (v_columnPrices : (Nat → Int64)) (v_gaps : (Nat → Int64)) (v_isReached : (Nat → Int32)) (v_rowOf : (Nat → Int32)) (v_rowPrices : (Nat → Int64)) (h : pMatcher_freeColumnFor_b31 N a1 v_costs v_cameFrom v_columnPrices v_gaps v_isReached v_rowOf v_rowPrices = some (rr, y_v_cameFrom, y_v_columnPrices, y_v_gaps, y_v_isReached, y_v_rowOf, y_v_rowPrices)) : zB C (0, 0) 31 [(0, .ref (C.X.1 + 13)), (1, .int a1)] [] ((va_up (va_up (va_up I 29 v_rowOf) 30 v_cameFrom) 31 v_isReached), (va_up (va_up (va_up J 26 v_rowPrices) 27 v_columnPrices) 28 v_gaps), Rr, D) := by
  refine zb_aload_n E dX6_freeColumnFor_31 0 rfl rfl ?_
  refine zb_get E 13 (by decide) (zF_13 C.X) rfl zin6 4 (by decide) zw_64 (v := .ref (C.X.1 + 29)) rfl dX6_freeColumnFor_32 ?_
  refine zb_iconst E dX6_freeColumnFor_35 (v := 0) rfl ?_
  refine zb_iload_n E dX6_freeColumnFor_36 1 rfl rfl ?_
  refine zb_iast E 29 (by decide) zF_29 (f := v_rowOf) rfl (ib_in (by decide)) dX6_freeColumnFor_37 (I2 := (va_up (va_up (va_up I 29 (upd v_rowOf (ix 0) a1)) 30 v_cameFrom) 31 v_isReached)) (zn3 (by decide : (31 : Nat) ≠ 29) (by decide : (30 : Nat) ≠ 29)) ?_
  refine zb_iconst E dX6_freeColumnFor_38 (v := 0) rfl ?_
  refine zb_istore_n E dX6_freeColumnFor_39 rfl (by decide) (lv2 := [(2, .int 0), (0, .ref (C.X.1 + 13)), (1, .int a1)]) rfl ?_
  refine zb_iconst E dX6_freeColumnFor_40 (v := 0) rfl ?_
  refine zb_istore_n E dX6_freeColumnFor_41 rfl (by decide) (lv2 := [(3, .int 0), (2, .int 0), (0, .ref (C.X.1 + 13)), (1, .int a1)]) rfl ?_
  refine zb_sub [2, 1, 0] rfl ?_
  exact c_X6_freeColumnFor_b42 N a1 v_costs e_v_costs rr y_v_cameFrom y_v_columnPrices y_v_gaps y_v_isReached y_v_rowOf y_v_rowPrices E hQ (upd v_rowOf (ix 0) a1) _ 0 0 v_cameFrom v_columnPrices v_gaps v_isReached v_rowPrices h
theorem c_X6_freeColumnFor_0 {C : zC} {I : Nat → Nat → Int32} {J : Nat → Nat → Int64} {Rr : Nat → Nat → Option Nat} {D : zD} (N : Nat) (a1 : Int32) (v_costs : (Nat → Nat → Int64)) (e_v_costs : ∀ q, q < 11 → J (15 + q) = v_costs q) (rr : Int32) (y_v_cameFrom : (Nat → Int32)) (y_v_columnPrices : (Nat → Int64)) (y_v_gaps : (Nat → Int64)) (y_v_isReached : (Nat → Int32)) (y_v_rowOf : (Nat → Int32)) (y_v_rowPrices : (Nat → Int64)) (E : zE C RX6 cX6_freeColumnFor 5 (some .int) ({ frames := 1, cells := 0, slots := 0, locals := 28 } : Room)) (hQ : C.Q = zQi C ({ frames := 1, cells := 0, slots := 0, locals := 28 } : Room) rr ((va_up (va_up (va_up I 29 y_v_rowOf) 30 y_v_cameFrom) 31 y_v_isReached), (va_up (va_up (va_up J 26 y_v_rowPrices) 27 y_v_columnPrices) 28 y_v_gaps), Rr, D)) (v_cameFrom : (Nat → Int32)) (v_columnPrices : (Nat → Int64)) (v_gaps : (Nat → Int64)) (v_isReached : (Nat → Int32)) (v_rowOf : (Nat → Int32)) (v_rowPrices : (Nat → Int64)) (h : pMatcher_freeColumnFor N a1 v_cameFrom v_columnPrices v_costs v_gaps v_isReached v_rowOf v_rowPrices = some (rr, y_v_cameFrom, y_v_columnPrices, y_v_gaps, y_v_isReached, y_v_rowOf, y_v_rowPrices)) : zB C (0, 0) 0 [(0, .ref (C.X.1 + 13)), (1, .int a1)] [] ((va_up (va_up (va_up I 29 v_rowOf) 30 v_cameFrom) 31 v_isReached), (va_up (va_up (va_up J 26 v_rowPrices) 27 v_columnPrices) 28 v_gaps), Rr, D) := by
  refine zb_aload_n E dX6_freeColumnFor_0 0 rfl rfl ?_
  refine zb_get E 13 (by decide) (zF_13 C.X) rfl zin6 3 (by decide) zw_63 (v := .ref (C.X.1 + 28)) rfl dX6_freeColumnFor_1 ?_
  refine zb_ldc2 E dX6_freeColumnFor_4 (v := 1152921504606846976) zw_591 ?_
  refine zb_cSv E [.ref (C.X.1 + 28), .long 1152921504606846976] zy_J7_fill_d0a16 zw_570 (c_J7_fill_d0a16 28 (by decide) zF_28 (by decide)) (by decide) rfl rfl (by first | decide | simp [Value.category]) dX6_freeColumnFor_7 (cs2 := (0, 0)) rfl ?_
  refine zb_S (S2 := ((va_up (va_up (va_up I 29 v_rowOf) 30 v_cameFrom) 31 v_isReached), (va_up (va_up (va_up J 26 v_rowPrices) 27 v_columnPrices) 28 (fun _ => 1152921504606846976)), Rr, D)) (zS_eq rfl zn1) ?_
  refine zb_iconst E dX6_freeColumnFor_10 (v := 0) rfl ?_
  refine zb_istore_n E dX6_freeColumnFor_11 rfl (by decide) (lv2 := [(2, .int 0), (0, .ref (C.X.1 + 13)), (1, .int a1)]) rfl ?_
  refine zb_sub [1, 2, 0] rfl ?_
  exact c_X6_freeColumnFor_b12 N a1 v_costs e_v_costs rr y_v_cameFrom y_v_columnPrices y_v_gaps y_v_isReached y_v_rowOf y_v_rowPrices E hQ v_cameFrom v_columnPrices (fun _ => 1152921504606846976) v_rowOf v_rowPrices _ (fun v_isReached_z1 h => c_X6_freeColumnFor_b31 N a1 v_costs e_v_costs rr y_v_cameFrom y_v_columnPrices y_v_gaps y_v_isReached y_v_rowOf y_v_rowPrices E hQ v_cameFrom v_columnPrices (fun _ => 1152921504606846976) v_isReached_z1 v_rowOf v_rowPrices h) _ 0 v_isReached h
theorem c_X6_freeColumnFor {l : Launch} {X : zX} {I : Nat → Nat → Int32} {J : Nat → Nat → Int64} {Rr : Nat → Nat → Option Nat} {D : zD} {N : Nat} {a1 : Int32} (v_costs : (Nat → Nat → Int64)) (e_v_costs : ∀ q, q < 11 → J (15 + q) = v_costs q) (v_cameFrom : (Nat → Int32)) (e_v_cameFrom : I 30 = v_cameFrom) (v_columnPrices : (Nat → Int64)) (e_v_columnPrices : J 27 = v_columnPrices) (v_gaps : (Nat → Int64)) (e_v_gaps : J 28 = v_gaps) (v_isReached : (Nat → Int32)) (e_v_isReached : I 31 = v_isReached) (v_rowOf : (Nat → Int32)) (e_v_rowOf : I 29 = v_rowOf) (v_rowPrices : (Nat → Int64)) (e_v_rowPrices : J 26 = v_rowPrices) {rr : Int32} {y_v_cameFrom : (Nat → Int32)} {y_v_columnPrices : (Nat → Int64)} {y_v_gaps : (Nat → Int64)} {y_v_isReached : (Nat → Int32)} {y_v_rowOf : (Nat → Int32)} {y_v_rowPrices : (Nat → Int64)} (h : pMatcher_freeColumnFor N a1 v_cameFrom v_columnPrices v_costs v_gaps v_isReached v_rowOf v_rowPrices = some (rr, y_v_cameFrom, y_v_columnPrices, y_v_gaps, y_v_isReached, y_v_rowOf, y_v_rowPrices)) : zMi l yX6_freeColumnFor cX6_freeColumnFor 5 (some .int) ({ frames := 1, cells := 0, slots := 0, locals := 28 } : Room) X [.ref (X.1 + 13), .int a1] (I, J, Rr, D) rr ((va_up (va_up (va_up I 29 y_v_rowOf) 30 y_v_cameFrom) 31 y_v_isReached), (va_up (va_up (va_up J 26 y_v_rowPrices) 27 y_v_columnPrices) 28 y_v_gaps), Rr, D) := by
  refine zMi.of (by decide) (Nat.le_of_ble_eq_true rfl) (fun C E hl hX hQ => ?_)
  subst hl
  subst hX
  have eI0 : (va_up (va_up (va_up I 29 v_rowOf) 30 v_cameFrom) 31 v_isReached) = I := by rw [zup_idE e_v_rowOf, zup_idE e_v_cameFrom, zup_idE e_v_isReached]
  have eJ0 : (va_up (va_up (va_up J 26 v_rowPrices) 27 v_columnPrices) 28 v_gaps) = J := by rw [zup_idE e_v_rowPrices, zup_idE e_v_columnPrices, zup_idE e_v_gaps]
  refine zb_S (S2 := ((va_up (va_up (va_up I 29 v_rowOf) 30 v_cameFrom) 31 v_isReached), (va_up (va_up (va_up J 26 v_rowPrices) 27 v_columnPrices) 28 v_gaps), Rr, D)) (zS_eq eI0.symm eJ0.symm) ?_
  exact c_X6_freeColumnFor_0 N a1 v_costs e_v_costs rr y_v_cameFrom y_v_columnPrices y_v_gaps y_v_isReached y_v_rowOf y_v_rowPrices E hQ v_cameFrom v_columnPrices v_gaps v_isReached v_rowOf v_rowPrices h
-- ChequeredCloth$Matcher.turnOver
theorem dX6_turnOver_0 : decode cX6_turnOver 0 = .ok (.iload_n 1, 1) := by decide +kernel
theorem dX6_turnOver_1 : decode cX6_turnOver 1 = .ok (.istore_n 2, 1) := by decide +kernel
theorem dX6_turnOver_2 : decode cX6_turnOver 2 = .ok (.iconst 0, 1) := by decide +kernel
theorem dX6_turnOver_3 : decode cX6_turnOver 3 = .ok (.istore_n 3, 1) := by decide +kernel
theorem dX6_turnOver_4 : decode cX6_turnOver 4 = .ok (.iload_n 3, 1) := by decide +kernel
theorem dX6_turnOver_5 : decode cX6_turnOver 5 = .ok (.bipush 20, 2) := by decide +kernel
theorem dX6_turnOver_7 : decode cX6_turnOver 7 = .ok (.if_icmp .gt 37, 3) := by decide +kernel
theorem dX6_turnOver_10 : decode cX6_turnOver 10 = .ok (.iload_n 2, 1) := by decide +kernel
theorem dX6_turnOver_11 : decode cX6_turnOver 11 = .ok (.ifCond .eq 33, 3) := by decide +kernel
theorem dX6_turnOver_14 : decode cX6_turnOver 14 = .ok (.aload_n 0, 1) := by decide +kernel
theorem dX6_turnOver_15 : decode cX6_turnOver 15 = .ok (.getfield 30, 3) := by decide +kernel
theorem dX6_turnOver_18 : decode cX6_turnOver 18 = .ok (.iload_n 2, 1) := by decide +kernel
theorem dX6_turnOver_19 : decode cX6_turnOver 19 = .ok (.iaload, 1) := by decide +kernel
theorem dX6_turnOver_20 : decode cX6_turnOver 20 = .ok (.istore 4, 2) := by decide +kernel
theorem dX6_turnOver_22 : decode cX6_turnOver 22 = .ok (.aload_n 0, 1) := by decide +kernel
theorem dX6_turnOver_23 : decode cX6_turnOver 23 = .ok (.getfield 26, 3) := by decide +kernel
theorem dX6_turnOver_26 : decode cX6_turnOver 26 = .ok (.iload_n 2, 1) := by decide +kernel
theorem dX6_turnOver_27 : decode cX6_turnOver 27 = .ok (.aload_n 0, 1) := by decide +kernel
theorem dX6_turnOver_28 : decode cX6_turnOver 28 = .ok (.getfield 26, 3) := by decide +kernel
theorem dX6_turnOver_31 : decode cX6_turnOver 31 = .ok (.iload 4, 2) := by decide +kernel
theorem dX6_turnOver_33 : decode cX6_turnOver 33 = .ok (.iaload, 1) := by decide +kernel
theorem dX6_turnOver_34 : decode cX6_turnOver 34 = .ok (.iastore, 1) := by decide +kernel
theorem dX6_turnOver_35 : decode cX6_turnOver 35 = .ok (.iload 4, 2) := by decide +kernel
theorem dX6_turnOver_37 : decode cX6_turnOver 37 = .ok (.istore_n 2, 1) := by decide +kernel
theorem dX6_turnOver_38 : decode cX6_turnOver 38 = .ok (.iinc 3 1, 3) := by decide +kernel
theorem dX6_turnOver_41 : decode cX6_turnOver 41 = .ok (.goto (-37), 3) := by decide +kernel
theorem dX6_turnOver_44 : decode cX6_turnOver 44 = .ok (.return_, 1) := by decide +kernel
theorem zy_X6_turnOver : zYv yX6_turnOver cX6_turnOver 5 none 1 := ⟨zw_602, zws_10, zw_4, zw_603, by decide, by decide, by decide⟩
theorem c_X6_turnOver_b4 {C : zC} {I : Nat → Nat → Int32} {J : Nat → Nat → Int64} {Rr : Nat → Nat → Option Nat} {D : zD} (N : Nat) (a1 : Int32) (v_cameFrom : (Nat → Int32)) (e_v_cameFrom : I 30 = v_cameFrom) (y_v_rowOf : (Nat → Int32)) (E : zE C RX6 cX6_turnOver 5 none ({ frames := 0, cells := 0, slots := 0, locals := 0 } : Room)) (hQ : C.Q = zQv C ({ frames := 0, cells := 0, slots := 0, locals := 0 } : Room) ((va_up I 29 y_v_rowOf), J, Rr, D))  : ∀ (n9 : Nat) (x2 : Int32) (x3 : Int32) (v_rowOf : (Nat → Int32)), pMatcher_turnOver_b4 N a1 v_cameFrom n9 x2 x3 v_rowOf = some y_v_rowOf → zB C (0, 0) 4 [(0, .ref (C.X.1 + 13)), (2, .int x2), (3, .int x3)] [] ((va_up I 29 v_rowOf), J, Rr, D) := by
  refine zlp3_ind (P := fun (x2 : Int32) (x3 : Int32) (v_rowOf : (Nat → Int32)) => zB C (0, 0) 4 [(0, .ref (C.X.1 + 13)), (2, .int x2), (3, .int x3)] [] ((va_up I 29 v_rowOf), J, Rr, D)) (fun self ih => ?_)
  intro x2 x3 v_rowOf h
  refine zb_iload_n E dX6_turnOver_4 2 rfl rfl ?_
  refine zb_bipush E dX6_turnOver_5 (v := 20) rfl ?_
  refine zb_icmp_gt E dX6_turnOver_7 (tgt := 44) rfl (fun hc => ?_) (fun hc => ?_)
  · have h := if_t h hc
    obtain rfl := zinj1 h
    exact zb_vret E hQ rfl ⟨Nat.zero_le _, Nat.zero_le _⟩ dX6_turnOver_44
  · have h := if_f h hc
    refine zb_iload_n E dX6_turnOver_10 1 rfl rfl ?_
    refine zb_if_eq E dX6_turnOver_11 (tgt := 44) rfl (fun hc => ?_) (fun hc => ?_)
    · have h := if_t h hc
      obtain rfl := zinj1 h
      exact zb_vret E hQ rfl ⟨Nat.zero_le _, Nat.zero_le _⟩ dX6_turnOver_44
    · have h := if_f h hc
      refine zb_aload_n E dX6_turnOver_14 0 rfl rfl ?_
      refine zb_get E 13 (by decide) (zF_13 C.X) rfl zin6 5 (by decide) zw_65 (v := .ref (C.X.1 + 30)) rfl dX6_turnOver_15 ?_
      refine zb_iload_n E dX6_turnOver_18 1 rfl rfl ?_
      obtain ⟨g1, h⟩ := gd_s h
      refine zb_iald E 30 (by decide) zF_30 (f := v_cameFrom) (by exact e_v_cameFrom) (ib_in g1) dX6_turnOver_19 ?_
      refine zb_istore E dX6_turnOver_20 (by decide) (lv2 := [(4, .int (v_cameFrom (ix x2))), (0, .ref (C.X.1 + 13)), (2, .int x2), (3, .int x3)]) rfl ?_
      refine zb_aload_n E dX6_turnOver_22 1 rfl rfl ?_
      refine zb_get E 13 (by decide) (zF_13 C.X) rfl zin6 4 (by decide) zw_64 (v := .ref (C.X.1 + 29)) rfl dX6_turnOver_23 ?_
      refine zb_iload_n E dX6_turnOver_26 2 rfl rfl ?_
      refine zb_aload_n E dX6_turnOver_27 1 rfl rfl ?_
      refine zb_get E 13 (by decide) (zF_13 C.X) rfl zin6 4 (by decide) zw_64 (v := .ref (C.X.1 + 29)) rfl dX6_turnOver_28 ?_
      refine zb_iload E dX6_turnOver_31 0 rfl ?_
      obtain ⟨g2, h⟩ := gd_s h
      refine zb_iald E 29 (by decide) zF_29 (f := v_rowOf) rfl (ib_in g2) dX6_turnOver_33 ?_
      refine zb_iast E 29 (by decide) zF_29 (f := v_rowOf) rfl (ib_in g1) dX6_turnOver_34 (I2 := (va_up I 29 (upd v_rowOf (ix x2) (v_rowOf (ix (v_cameFrom (ix x2))))))) zn1 ?_
      refine zb_iload E dX6_turnOver_35 0 rfl ?_
      refine zb_istore_n E dX6_turnOver_37 rfl (by decide) (lv2 := [(2, .int (v_cameFrom (ix x2))), (4, .int (v_cameFrom (ix x2))), (0, .ref (C.X.1 + 13)), (3, .int x3)]) rfl ?_
      refine zb_iinc E dX6_turnOver_38 3 rfl (v := (x3 + 1)) rfl (by decide) (lv2 := [(3, .int (x3 + 1)), (2, .int (v_cameFrom (ix x2))), (4, .int (v_cameFrom (ix x2))), (0, .ref (C.X.1 + 13))]) rfl ?_
      refine zb_goto E dX6_turnOver_41 (tgt := 4) rfl ?_
      refine zb_sub [3, 1, 0] rfl ?_
      exact ih (v_cameFrom (ix x2)) (x3 + 1) (upd v_rowOf (ix x2) (v_rowOf (ix (v_cameFrom (ix x2))))) h
theorem c_X6_turnOver_0 {C : zC} {I : Nat → Nat → Int32} {J : Nat → Nat → Int64} {Rr : Nat → Nat → Option Nat} {D : zD} (N : Nat) (a1 : Int32) (v_cameFrom : (Nat → Int32)) (e_v_cameFrom : I 30 = v_cameFrom) (y_v_rowOf : (Nat → Int32)) (E : zE C RX6 cX6_turnOver 5 none ({ frames := 0, cells := 0, slots := 0, locals := 0 } : Room)) (hQ : C.Q = zQv C ({ frames := 0, cells := 0, slots := 0, locals := 0 } : Room) ((va_up I 29 y_v_rowOf), J, Rr, D)) (v_rowOf : (Nat → Int32)) (h : pMatcher_turnOver N a1 v_cameFrom v_rowOf = some y_v_rowOf) : zB C (0, 0) 0 [(0, .ref (C.X.1 + 13)), (1, .int a1)] [] ((va_up I 29 v_rowOf), J, Rr, D) := by
  refine zb_iload_n E dX6_turnOver_0 1 rfl rfl ?_
  refine zb_istore_n E dX6_turnOver_1 rfl (by decide) (lv2 := [(2, .int a1), (0, .ref (C.X.1 + 13)), (1, .int a1)]) rfl ?_
  refine zb_iconst E dX6_turnOver_2 (v := 0) rfl ?_
  refine zb_istore_n E dX6_turnOver_3 rfl (by decide) (lv2 := [(3, .int 0), (2, .int a1), (0, .ref (C.X.1 + 13)), (1, .int a1)]) rfl ?_
  refine zb_sub [2, 1, 0] rfl ?_
  exact c_X6_turnOver_b4 N a1 v_cameFrom e_v_cameFrom y_v_rowOf E hQ _ a1 0 v_rowOf h
theorem c_X6_turnOver {l : Launch} {X : zX} {I : Nat → Nat → Int32} {J : Nat → Nat → Int64} {Rr : Nat → Nat → Option Nat} {D : zD} {N : Nat} {a1 : Int32} (v_cameFrom : (Nat → Int32)) (e_v_cameFrom : I 30 = v_cameFrom) (v_rowOf : (Nat → Int32)) (e_v_rowOf : I 29 = v_rowOf) {y_v_rowOf : (Nat → Int32)} (h : pMatcher_turnOver N a1 v_cameFrom v_rowOf = some y_v_rowOf) : zMv l yX6_turnOver cX6_turnOver 5 none ({ frames := 0, cells := 0, slots := 0, locals := 0 } : Room) X [.ref (X.1 + 13), .int a1] (I, J, Rr, D) ((va_up I 29 y_v_rowOf), J, Rr, D) := by
  refine zMv.of (by decide) (Nat.le_of_ble_eq_true rfl) (fun C E hl hX hQ => ?_)
  subst hl
  subst hX
  have eI0 : (va_up I 29 v_rowOf) = I := by rw [zup_idE e_v_rowOf]
  have eJ0 : J = J := rfl
  refine zb_S (S2 := ((va_up I 29 v_rowOf), J, Rr, D)) (zS_eq eI0.symm eJ0.symm) ?_
  exact c_X6_turnOver_0 N a1 v_cameFrom e_v_cameFrom y_v_rowOf E hQ v_rowOf h
-- ChequeredCloth$Matcher.solve
theorem dX6_solve_0 : decode cX6_solve 0 = .ok (.iconst 1, 1) := by decide +kernel
theorem dX6_solve_1 : decode cX6_solve 1 = .ok (.istore_n 1, 1) := by decide +kernel
theorem dX6_solve_2 : decode cX6_solve 2 = .ok (.iload_n 1, 1) := by decide +kernel
theorem dX6_solve_3 : decode cX6_solve 3 = .ok (.bipush 10, 2) := by decide +kernel
theorem dX6_solve_5 : decode cX6_solve 5 = .ok (.if_icmp .gt 18, 3) := by decide +kernel
theorem dX6_solve_8 : decode cX6_solve 8 = .ok (.aload_n 0, 1) := by decide +kernel
theorem dX6_solve_9 : decode cX6_solve 9 = .ok (.aload_n 0, 1) := by decide +kernel
theorem dX6_solve_10 : decode cX6_solve 10 = .ok (.iload_n 1, 1) := by decide +kernel
theorem dX6_solve_11 : decode cX6_solve 11 = .ok (.invokevirtual 59, 3) := by decide +kernel
theorem dX6_solve_14 : decode cX6_solve 14 = .ok (.invokevirtual 63, 3) := by decide +kernel
theorem dX6_solve_17 : decode cX6_solve 17 = .ok (.iinc 1 1, 3) := by decide +kernel
theorem dX6_solve_20 : decode cX6_solve 20 = .ok (.goto (-18), 3) := by decide +kernel
theorem dX6_solve_23 : decode cX6_solve 23 = .ok (.aload_n 0, 1) := by decide +kernel
theorem dX6_solve_24 : decode cX6_solve 24 = .ok (.getfield 37, 3) := by decide +kernel
theorem dX6_solve_27 : decode cX6_solve 27 = .ok (.iconst (-1), 1) := by decide +kernel
theorem dX6_solve_28 : decode cX6_solve 28 = .ok (.invokestatic 46, 3) := by decide +kernel
theorem dX6_solve_31 : decode cX6_solve 31 = .ok (.iconst 1, 1) := by decide +kernel
theorem dX6_solve_32 : decode cX6_solve 32 = .ok (.istore_n 1, 1) := by decide +kernel
theorem dX6_solve_33 : decode cX6_solve 33 = .ok (.iload_n 1, 1) := by decide +kernel
theorem dX6_solve_34 : decode cX6_solve 34 = .ok (.bipush 10, 2) := by decide +kernel
theorem dX6_solve_36 : decode cX6_solve 36 = .ok (.if_icmp .gt 44, 3) := by decide +kernel
theorem dX6_solve_39 : decode cX6_solve 39 = .ok (.aload_n 0, 1) := by decide +kernel
theorem dX6_solve_40 : decode cX6_solve 40 = .ok (.getfield 26, 3) := by decide +kernel
theorem dX6_solve_43 : decode cX6_solve 43 = .ok (.iload_n 1, 1) := by decide +kernel
theorem dX6_solve_44 : decode cX6_solve 44 = .ok (.iaload, 1) := by decide +kernel
theorem dX6_solve_45 : decode cX6_solve 45 = .ok (.istore_n 2, 1) := by decide +kernel
theorem dX6_solve_46 : decode cX6_solve 46 = .ok (.iload_n 2, 1) := by decide +kernel
theorem dX6_solve_47 : decode cX6_solve 47 = .ok (.ifCond .le 27, 3) := by decide +kernel
theorem dX6_solve_50 : decode cX6_solve 50 = .ok (.aload_n 0, 1) := by decide +kernel
theorem dX6_solve_51 : decode cX6_solve 51 = .ok (.getfield 13, 3) := by decide +kernel
theorem dX6_solve_54 : decode cX6_solve 54 = .ok (.iload_n 2, 1) := by decide +kernel
theorem dX6_solve_55 : decode cX6_solve 55 = .ok (.aaload, 1) := by decide +kernel
theorem dX6_solve_56 : decode cX6_solve 56 = .ok (.iload_n 1, 1) := by decide +kernel
theorem dX6_solve_57 : decode cX6_solve 57 = .ok (.laload, 1) := by decide +kernel
theorem dX6_solve_58 : decode cX6_solve 58 = .ok (.lconst 0, 1) := by decide +kernel
theorem dX6_solve_59 : decode cX6_solve 59 = .ok (.lcmp, 1) := by decide +kernel
theorem dX6_solve_60 : decode cX6_solve 60 = .ok (.ifCond .eq 14, 3) := by decide +kernel
theorem dX6_solve_63 : decode cX6_solve 63 = .ok (.aload_n 0, 1) := by decide +kernel
theorem dX6_solve_64 : decode cX6_solve 64 = .ok (.getfield 37, 3) := by decide +kernel
theorem dX6_solve_67 : decode cX6_solve 67 = .ok (.iload_n 2, 1) := by decide +kernel
theorem dX6_solve_68 : decode cX6_solve 68 = .ok (.iconst 1, 1) := by decide +kernel
theorem dX6_solve_69 : decode cX6_solve 69 = .ok (.isub, 1) := by decide +kernel
theorem dX6_solve_70 : decode cX6_solve 70 = .ok (.iload_n 1, 1) := by decide +kernel
theorem dX6_solve_71 : decode cX6_solve 71 = .ok (.iconst 1, 1) := by decide +kernel
theorem dX6_solve_72 : decode cX6_solve 72 = .ok (.isub, 1) := by decide +kernel
theorem dX6_solve_73 : decode cX6_solve 73 = .ok (.iastore, 1) := by decide +kernel
theorem dX6_solve_74 : decode cX6_solve 74 = .ok (.iinc 1 1, 3) := by decide +kernel
theorem dX6_solve_77 : decode cX6_solve 77 = .ok (.goto (-44), 3) := by decide +kernel
theorem dX6_solve_80 : decode cX6_solve 80 = .ok (.return_, 1) := by decide +kernel
theorem zy_X6_solve : zYv yX6_solve cX6_solve 3 none 0 := ⟨zw_584, zw_585, zw_4, zw_586, by decide, by decide, by decide⟩
theorem c_X6_solve_b2 {C : zC} {I : Nat → Nat → Int32} {J : Nat → Nat → Int64} {Rr : Nat → Nat → Option Nat} {D : zD} (N : Nat) (v_costs : (Nat → Nat → Int64)) (e_v_costs : ∀ q, q < 11 → J (15 + q) = v_costs q) (y_v_cameFrom : (Nat → Int32)) (y_v_columnPrices : (Nat → Int64)) (y_v_gaps : (Nat → Int64)) (y_v_isReached : (Nat → Int32)) (y_v_mates : (Nat → Int32)) (y_v_rowOf : (Nat → Int32)) (y_v_rowPrices : (Nat → Int64)) (E : zE C RX6 cX6_solve 3 none ({ frames := 2, cells := 0, slots := 0, locals := 52 } : Room)) (hQ : C.Q = zQv C ({ frames := 2, cells := 0, slots := 0, locals := 52 } : Room) ((va_up (va_up (va_up (va_up I 29 y_v_rowOf) 30 y_v_cameFrom) 31 y_v_isReached) 32 y_v_mates), (va_up (va_up (va_up J 26 y_v_rowPrices) 27 y_v_columnPrices) 28 y_v_gaps), Rr, D)) (v_mates : (Nat → Int32)) (k23 : (Nat → Int32) → (Nat → Int64) → (Nat → Int64) → (Nat → Int32) → (Nat → Int32) → (Nat → Int64) → Option R_pMatcher_solve) (hk23 : ∀ (v_cameFrom : (Nat → Int32)) (v_columnPrices : (Nat → Int64)) (v_gaps : (Nat → Int64)) (v_isReached : (Nat → Int32)) (v_rowOf : (Nat → Int32)) (v_rowPrices : (Nat → Int64)), k23 v_cameFrom v_columnPrices v_gaps v_isReached v_rowOf v_rowPrices = some (y_v_cameFrom, y_v_columnPrices, y_v_gaps, y_v_isReached, y_v_mates, y_v_rowOf, y_v_rowPrices) → zB C (0, 0) 23 [(0, .ref (C.X.1 + 13))] [] ((va_up (va_up (va_up (va_up I 29 v_rowOf) 30 v_cameFrom) 31 v_isReached) 32 v_mates), (va_up (va_up (va_up J 26 v_rowPrices) 27 v_columnPrices) 28 v_gaps), Rr, D)) : ∀ (n9 : Nat) (x1 : Int32) (v_cameFrom : (Nat → Int32)) (v_columnPrices : (Nat → Int64)) (v_gaps : (Nat → Int64)) (v_isReached : (Nat → Int32)) (v_rowOf : (Nat → Int32)) (v_rowPrices : (Nat → Int64)), pMatcher_solve_b2 N v_costs v_mates k23 n9 x1 v_cameFrom v_columnPrices v_gaps v_isReached v_rowOf v_rowPrices = some (y_v_cameFrom, y_v_columnPrices, y_v_gaps, y_v_isReached, y_v_mates, y_v_rowOf, y_v_rowPrices) → zB C (0, 0) 2 [(0, .ref (C.X.1 + 13)), (1, .int x1)] [] ((va_up (va_up (va_up (va_up I 29 v_rowOf) 30 v_cameFrom) 31 v_isReached) 32 v_mates), (va_up (va_up (va_up J 26 v_rowPrices) 27 v_columnPrices) 28 v_gaps), Rr, D) := by
  refine zlp7_ind (P := fun (x1 : Int32) (v_cameFrom : (Nat → Int32)) (v_columnPrices : (Nat → Int64)) (v_gaps : (Nat → Int64)) (v_isReached : (Nat → Int32)) (v_rowOf : (Nat → Int32)) (v_rowPrices : (Nat → Int64)) => zB C (0, 0) 2 [(0, .ref (C.X.1 + 13)), (1, .int x1)] [] ((va_up (va_up (va_up (va_up I 29 v_rowOf) 30 v_cameFrom) 31 v_isReached) 32 v_mates), (va_up (va_up (va_up J 26 v_rowPrices) 27 v_columnPrices) 28 v_gaps), Rr, D)) (fun self ih => ?_)
  intro x1 v_cameFrom v_columnPrices v_gaps v_isReached v_rowOf v_rowPrices h
  refine zb_iload_n E dX6_solve_2 1 rfl rfl ?_
  refine zb_bipush E dX6_solve_3 (v := 10) rfl ?_
  refine zb_icmp_gt E dX6_solve_5 (tgt := 23) rfl (fun hc => ?_) (fun hc => ?_)
  · have h := if_t h hc
    refine zb_sub [0] rfl ?_
    exact hk23 v_cameFrom v_columnPrices v_gaps v_isReached v_rowOf v_rowPrices h
  · have h := if_f h hc
    refine zb_aload_n E dX6_solve_8 0 rfl rfl ?_
    refine zb_aload_n E dX6_solve_9 0 rfl rfl ?_
    refine zb_iload_n E dX6_solve_10 1 rfl rfl ?_
    obtain ⟨rc1, v_cameFrom_c1, v_columnPrices_c1, v_gaps_c1, v_isReached_c1, v_rowOf_c1, v_rowPrices_c1, hc_11, h⟩ := bd7_s h
    refine zb_cVi E [.int x1] 13 zy_X6_freeColumnFor zw_587 (by decide) (zF_13 _ _ _ _) rfl (c_X6_freeColumnFor v_costs (by exact fun q hq => (zup_n (zgne hq (by decide : (28 : Nat) < 15 ∨ 26 ≤ (28 : Nat)))).trans ((zup_n (zgne hq (by decide : (27 : Nat) < 15 ∨ 26 ≤ (27 : Nat)))).trans ((zup_n (zgne hq (by decide : (26 : Nat) < 15 ∨ 26 ≤ (26 : Nat)))).trans (e_v_costs _ hq)))) v_cameFrom rfl v_columnPrices rfl v_gaps rfl v_isReached rfl v_rowOf rfl v_rowPrices rfl hc_11) (by decide) rfl rfl (by first | decide | simp [Value.category]) dX6_solve_11 (cs2 := (0, 0)) rfl ?_
    refine zb_S (S2 := ((va_up (va_up (va_up (va_up I 29 v_rowOf_c1) 30 v_cameFrom_c1) 31 v_isReached_c1) 32 v_mates), (va_up (va_up (va_up J 26 v_rowPrices_c1) 27 v_columnPrices_c1) 28 v_gaps_c1), Rr, D)) (zS_eq ((zcgF ((zcgF (zn4 (by decide : (32 : Nat) ≠ 29) (by decide : (31 : Nat) ≠ 29) (by decide : (30 : Nat) ≠ 29))).trans (zn3 (by decide : (32 : Nat) ≠ 30) (by decide : (31 : Nat) ≠ 30)))).trans (zn2 (by decide : (32 : Nat) ≠ 31))) ((zcgF ((zcgF (zn3 (by decide : (28 : Nat) ≠ 26) (by decide : (27 : Nat) ≠ 26))).trans (zn2 (by decide : (28 : Nat) ≠ 27)))).trans zn1)) ?_
    obtain ⟨v_rowOf_c2, hc_14, h⟩ := bd1_s h
    refine zb_cVv E [.int rc1] 13 zy_X6_turnOver zw_600 (by decide) (zF_13 _ _ _ _) rfl (c_X6_turnOver v_cameFrom_c1 rfl v_rowOf_c1 rfl hc_14) (by decide) rfl rfl (by first | decide | simp [Value.category]) dX6_solve_14 (cs2 := (0, 0)) rfl ?_
    refine zb_S (S2 := ((va_up (va_up (va_up (va_up I 29 v_rowOf_c2) 30 v_cameFrom_c1) 31 v_isReached_c1) 32 v_mates), (va_up (va_up (va_up J 26 v_rowPrices_c1) 27 v_columnPrices_c1) 28 v_gaps_c1), Rr, D)) (zS_eq (zn4 (by decide : (32 : Nat) ≠ 29) (by decide : (31 : Nat) ≠ 29) (by decide : (30 : Nat) ≠ 29)) rfl) ?_
    refine zb_iinc E dX6_solve_17 1 rfl (v := (x1 + 1)) rfl (by decide) (lv2 := [(1, .int (x1 + 1)), (0, .ref (C.X.1 + 13))]) rfl ?_
    refine zb_goto E dX6_solve_20 (tgt := 2) rfl ?_
    refine zb_sub [1, 0] rfl ?_
    exact ih (x1 + 1) v_cameFrom_c1 v_columnPrices_c1 v_gaps_c1 v_isReached_c1 v_rowOf_c2 v_rowPrices_c1 h
theorem c_X6_solve_b33 {C : zC} {I : Nat → Nat → Int32} {J : Nat → Nat → Int64} {Rr : Nat → Nat → Option Nat} {D : zD} (N : Nat) (v_costs : (Nat → Nat → Int64)) (e_v_costs : ∀ q, q < 11 → J (15 + q) = v_costs q) (y_v_cameFrom : (Nat → Int32)) (y_v_columnPrices : (Nat → Int64)) (y_v_gaps : (Nat → Int64)) (y_v_isReached : (Nat → Int32)) (y_v_mates : (Nat → Int32)) (y_v_rowOf : (Nat → Int32)) (y_v_rowPrices : (Nat → Int64)) (E : zE C RX6 cX6_solve 3 none ({ frames := 2, cells := 0, slots := 0, locals := 52 } : Room)) (hQ : C.Q = zQv C ({ frames := 2, cells := 0, slots := 0, locals := 52 } : Room) ((va_up (va_up (va_up (va_up I 29 y_v_rowOf) 30 y_v_cameFrom) 31 y_v_isReached) 32 y_v_mates), (va_up (va_up (va_up J 26 y_v_rowPrices) 27 y_v_columnPrices) 28 y_v_gaps), Rr, D)) (v_cameFrom : (Nat → Int32)) (v_columnPrices : (Nat → Int64)) (v_gaps : (Nat → Int64)) (v_isReached : (Nat → Int32)) (v_rowOf : (Nat → Int32)) (v_rowPrices : (Nat → Int64))  : ∀ (n9 : Nat) (x1 : Int32) (v_mates : (Nat → Int32)), pMatcher_solve_b33 N v_costs v_cameFrom v_columnPrices v_gaps v_isReached v_rowOf v_rowPrices n9 x1 v_mates = some (y_v_cameFrom, y_v_columnPrices, y_v_gaps, y_v_isReached, y_v_mates, y_v_rowOf, y_v_rowPrices) → zB C (0, 0) 33 [(0, .ref (C.X.1 + 13)), (1, .int x1)] [] ((va_up (va_up (va_up (va_up I 29 v_rowOf) 30 v_cameFrom) 31 v_isReached) 32 v_mates), (va_up (va_up (va_up J 26 v_rowPrices) 27 v_columnPrices) 28 v_gaps), Rr, D) := by
  refine zlp2_ind (P := fun (x1 : Int32) (v_mates : (Nat → Int32)) => zB C (0, 0) 33 [(0, .ref (C.X.1 + 13)), (1, .int x1)] [] ((va_up (va_up (va_up (va_up I 29 v_rowOf) 30 v_cameFrom) 31 v_isReached) 32 v_mates), (va_up (va_up (va_up J 26 v_rowPrices) 27 v_columnPrices) 28 v_gaps), Rr, D)) (fun self ih => ?_)
  intro x1 v_mates h
  refine zb_iload_n E dX6_solve_33 1 rfl rfl ?_
  refine zb_bipush E dX6_solve_34 (v := 10) rfl ?_
  refine zb_icmp_gt E dX6_solve_36 (tgt := 80) rfl (fun hc => ?_) (fun hc => ?_)
  · have h := if_t h hc
    obtain ⟨rfl, rfl, rfl, rfl, rfl, rfl, rfl⟩ := zinj7 h
    exact zb_vret E hQ rfl ⟨Nat.zero_le _, Nat.zero_le _⟩ dX6_solve_80
  · have h := if_f h hc
    refine zb_aload_n E dX6_solve_39 0 rfl rfl ?_
    refine zb_get E 13 (by decide) (zF_13 C.X) rfl zin6 4 (by decide) zw_64 (v := .ref (C.X.1 + 29)) rfl dX6_solve_40 ?_
    refine zb_iload_n E dX6_solve_43 1 rfl rfl ?_
    obtain ⟨g3, h⟩ := gd_s h
    refine zb_iald E 29 (by decide) zF_29 (f := v_rowOf) rfl (ib_in g3) dX6_solve_44 ?_
    refine zb_istore_n E dX6_solve_45 rfl (by decide) (lv2 := [(2, .int (v_rowOf (ix x1))), (0, .ref (C.X.1 + 13)), (1, .int x1)]) rfl ?_
    refine zb_iload_n E dX6_solve_46 0 rfl rfl ?_
    refine zb_if_le E dX6_solve_47 (tgt := 74) rfl (fun hc => ?_) (fun hc => ?_)
    · have h := if_t h hc
      refine zb_iinc E dX6_solve_74 2 rfl (v := (x1 + 1)) rfl (by decide) (lv2 := [(1, .int (x1 + 1)), (2, .int (v_rowOf (ix x1))), (0, .ref (C.X.1 + 13))]) rfl ?_
      refine zb_goto E dX6_solve_77 (tgt := 33) rfl ?_
      refine zb_sub [2, 0] rfl ?_
      exact ih (x1 + 1) v_mates h
    · have h := if_f h hc
      refine zb_aload_n E dX6_solve_50 1 rfl rfl ?_
      refine zb_get E 13 (by decide) (zF_13 C.X) rfl zin6 0 (by decide) zw_60 (v := .ref (C.X.1 + 14)) rfl dX6_solve_51 ?_
      refine zb_iload_n E dX6_solve_54 0 rfl rfl ?_
      obtain ⟨g4, h⟩ := gd_s h
      refine zb_aaldg E (ib_in g4) dX6_solve_55 ?_
      refine zb_iload_n E dX6_solve_56 2 rfl rfl ?_
      refine zb_lald E (15 + ix (v_rowOf (ix x1))) (zglt (ib_lt g4)) (zF_g (ib_lt g4)) (f := v_costs (ix (v_rowOf (ix x1)))) (by exact ((zup_n (zgne (ib_lt g4) (by decide : (28 : Nat) < 15 ∨ 26 ≤ (28 : Nat)))).trans ((zup_n (zgne (ib_lt g4) (by decide : (27 : Nat) < 15 ∨ 26 ≤ (27 : Nat)))).trans ((zup_n (zgne (ib_lt g4) (by decide : (26 : Nat) < 15 ∨ 26 ≤ (26 : Nat)))).trans (e_v_costs _ (ib_lt g4)))))) (ib_in g3) dX6_solve_57 ?_
      refine zb_lconst E dX6_solve_58 (v := 0) rfl ?_
      refine zb_lcmp E dX6_solve_59 ?_
      refine zb_if_eq E dX6_solve_60 (tgt := 74) rfl (fun hc => ?_) (fun hc => ?_)
      · have h := if_t h hc
        refine zb_iinc E dX6_solve_74 2 rfl (v := (x1 + 1)) rfl (by decide) (lv2 := [(1, .int (x1 + 1)), (2, .int (v_rowOf (ix x1))), (0, .ref (C.X.1 + 13))]) rfl ?_
        refine zb_goto E dX6_solve_77 (tgt := 33) rfl ?_
        refine zb_sub [2, 0] rfl ?_
        exact ih (x1 + 1) v_mates h
      · have h := if_f h hc
        refine zb_aload_n E dX6_solve_63 1 rfl rfl ?_
        refine zb_get E 13 (by decide) (zF_13 C.X) rfl zin6 7 (by decide) zw_67 (v := .ref (C.X.1 + 32)) rfl dX6_solve_64 ?_
        refine zb_iload_n E dX6_solve_67 0 rfl rfl ?_
        refine zb_iconst E dX6_solve_68 (v := 1) rfl ?_
        refine zb_isub E dX6_solve_69 ?_
        refine zb_iload_n E dX6_solve_70 2 rfl rfl ?_
        refine zb_iconst E dX6_solve_71 (v := 1) rfl ?_
        refine zb_isub E dX6_solve_72 ?_
        obtain ⟨g5, h⟩ := gd_s h
        refine zb_iast E 32 (by decide) zF_32 (f := v_mates) rfl (ib_in g5) dX6_solve_73 (I2 := (va_up (va_up (va_up (va_up I 29 v_rowOf) 30 v_cameFrom) 31 v_isReached) 32 (upd v_mates (ix ((v_rowOf (ix x1)) - 1)) (x1 - 1)))) zn1 ?_
        refine zb_iinc E dX6_solve_74 2 rfl (v := (x1 + 1)) rfl (by decide) (lv2 := [(1, .int (x1 + 1)), (2, .int (v_rowOf (ix x1))), (0, .ref (C.X.1 + 13))]) rfl ?_
        refine zb_goto E dX6_solve_77 (tgt := 33) rfl ?_
        refine zb_sub [2, 0] rfl ?_
        exact ih (x1 + 1) (upd v_mates (ix ((v_rowOf (ix x1)) - 1)) (x1 - 1)) h
theorem c_X6_solve_b23 {C : zC} {I : Nat → Nat → Int32} {J : Nat → Nat → Int64} {Rr : Nat → Nat → Option Nat} {D : zD} (N : Nat) (v_costs : (Nat → Nat → Int64)) (e_v_costs : ∀ q, q < 11 → J (15 + q) = v_costs q) (y_v_cameFrom : (Nat → Int32)) (y_v_columnPrices : (Nat → Int64)) (y_v_gaps : (Nat → Int64)) (y_v_isReached : (Nat → Int32)) (y_v_mates : (Nat → Int32)) (y_v_rowOf : (Nat → Int32)) (y_v_rowPrices : (Nat → Int64)) (E : zE C RX6 cX6_solve 3 none ({ frames := 2, cells := 0, slots := 0, locals := 52 } : Room)) (hQ : C.Q = zQv C ({ frames := 2, cells := 0, slots := 0, locals := 52 } : Room) ((va_up (va_up (va_up (va_up I 29 y_v_rowOf) 30 y_v_cameFrom) 31 y_v_isReached) 32 y_v_mates), (va_up (va_up (va_up J 26 y_v_rowPrices) 27 y_v_columnPrices) 28 y_v_gaps), Rr, D)) (v_cameFrom : (Nat → Int32)) (v_columnPrices : (Nat → Int64)) (v_gaps : (Nat → Int64)) (v_isReached : (Nat → Int32)) (v_mates : (Nat → Int32)) (v_rowOf : (Nat → Int32)) (v_rowPrices : (Nat → Int64)) (h : pMatcher_solve_b23 N v_costs v_cameFrom v_columnPrices v_gaps v_isReached v_mates v_rowOf v_rowPrices = some (y_v_cameFrom, y_v_columnPrices, y_v_gaps, y_v_isReached, y_v_mates, y_v_rowOf, y_v_rowPrices)) : zB C (0, 0) 23 [(0, .ref (C.X.1 + 13))] [] ((va_up (va_up (va_up (va_up I 29 v_rowOf) 30 v_cameFrom) 31 v_isReached) 32 v_mates), (va_up (va_up (va_up J 26 v_rowPrices) 27 v_columnPrices) 28 v_gaps), Rr, D) := by
  refine zb_aload_n E dX6_solve_23 0 rfl rfl ?_
  refine zb_get E 13 (by decide) (zF_13 C.X) rfl zin6 7 (by decide) zw_67 (v := .ref (C.X.1 + 32)) rfl dX6_solve_24 ?_
  refine zb_iconst E dX6_solve_27 (v := (-1)) rfl ?_
  refine zb_cSv E [.ref (C.X.1 + 32), .int (-1)] zy_J7_fill_53178 zw_573 (c_J7_fill_53178 32 (by decide) zF_32 (by decide)) (by decide) rfl rfl (by first | decide | simp [Value.category]) dX6_solve_28 (cs2 := (0, 0)) rfl ?_
  refine zb_S (S2 := ((va_up (va_up (va_up (va_up I 29 v_rowOf) 30 v_cameFrom) 31 v_isReached) 32 (fun _ => (-1))), (va_up (va_up (va_up J 26 v_rowPrices) 27 v_columnPrices) 28 v_gaps), Rr, D)) (zS_eq zn1 rfl) ?_
  refine zb_iconst E dX6_solve_31 (v := 1) rfl ?_
  refine zb_istore_n E dX6_solve_32 rfl (by decide) (lv2 := [(1, .int 1), (0, .ref (C.X.1 + 13))]) rfl ?_
  refine zb_sub [1, 0] rfl ?_
  exact c_X6_solve_b33 N v_costs e_v_costs y_v_cameFrom y_v_columnPrices y_v_gaps y_v_isReached y_v_mates y_v_rowOf y_v_rowPrices E hQ v_cameFrom v_columnPrices v_gaps v_isReached v_rowOf v_rowPrices _ 1 (fun _ => (-1)) h
theorem c_X6_solve_0 {C : zC} {I : Nat → Nat → Int32} {J : Nat → Nat → Int64} {Rr : Nat → Nat → Option Nat} {D : zD} (N : Nat) (v_costs : (Nat → Nat → Int64)) (e_v_costs : ∀ q, q < 11 → J (15 + q) = v_costs q) (y_v_cameFrom : (Nat → Int32)) (y_v_columnPrices : (Nat → Int64)) (y_v_gaps : (Nat → Int64)) (y_v_isReached : (Nat → Int32)) (y_v_mates : (Nat → Int32)) (y_v_rowOf : (Nat → Int32)) (y_v_rowPrices : (Nat → Int64)) (E : zE C RX6 cX6_solve 3 none ({ frames := 2, cells := 0, slots := 0, locals := 52 } : Room)) (hQ : C.Q = zQv C ({ frames := 2, cells := 0, slots := 0, locals := 52 } : Room) ((va_up (va_up (va_up (va_up I 29 y_v_rowOf) 30 y_v_cameFrom) 31 y_v_isReached) 32 y_v_mates), (va_up (va_up (va_up J 26 y_v_rowPrices) 27 y_v_columnPrices) 28 y_v_gaps), Rr, D)) (v_cameFrom : (Nat → Int32)) (v_columnPrices : (Nat → Int64)) (v_gaps : (Nat → Int64)) (v_isReached : (Nat → Int32)) (v_mates : (Nat → Int32)) (v_rowOf : (Nat → Int32)) (v_rowPrices : (Nat → Int64)) (h : pMatcher_solve N v_cameFrom v_columnPrices v_costs v_gaps v_isReached v_mates v_rowOf v_rowPrices = some (y_v_cameFrom, y_v_columnPrices, y_v_gaps, y_v_isReached, y_v_mates, y_v_rowOf, y_v_rowPrices)) : zB C (0, 0) 0 [(0, .ref (C.X.1 + 13))] [] ((va_up (va_up (va_up (va_up I 29 v_rowOf) 30 v_cameFrom) 31 v_isReached) 32 v_mates), (va_up (va_up (va_up J 26 v_rowPrices) 27 v_columnPrices) 28 v_gaps), Rr, D) := by
  refine zb_iconst E dX6_solve_0 (v := 1) rfl ?_
  refine zb_istore_n E dX6_solve_1 rfl (by decide) (lv2 := [(1, .int 1), (0, .ref (C.X.1 + 13))]) rfl ?_
  refine zb_sub [1, 0] rfl ?_
  exact c_X6_solve_b2 N v_costs e_v_costs y_v_cameFrom y_v_columnPrices y_v_gaps y_v_isReached y_v_mates y_v_rowOf y_v_rowPrices E hQ v_mates _ (fun v_cameFrom_z1 v_columnPrices_z2 v_gaps_z3 v_isReached_z4 v_rowOf_z5 v_rowPrices_z6 h => c_X6_solve_b23 N v_costs e_v_costs y_v_cameFrom y_v_columnPrices y_v_gaps y_v_isReached y_v_mates y_v_rowOf y_v_rowPrices E hQ v_cameFrom_z1 v_columnPrices_z2 v_gaps_z3 v_isReached_z4 v_mates v_rowOf_z5 v_rowPrices_z6 h) _ 1 v_cameFrom v_columnPrices v_gaps v_isReached v_rowOf v_rowPrices h
theorem c_X6_solve {l : Launch} {X : zX} {I : Nat → Nat → Int32} {J : Nat → Nat → Int64} {Rr : Nat → Nat → Option Nat} {D : zD} {N : Nat} (v_costs : (Nat → Nat → Int64)) (e_v_costs : ∀ q, q < 11 → J (15 + q) = v_costs q) (v_cameFrom : (Nat → Int32)) (e_v_cameFrom : I 30 = v_cameFrom) (v_columnPrices : (Nat → Int64)) (e_v_columnPrices : J 27 = v_columnPrices) (v_gaps : (Nat → Int64)) (e_v_gaps : J 28 = v_gaps) (v_isReached : (Nat → Int32)) (e_v_isReached : I 31 = v_isReached) (v_mates : (Nat → Int32)) (e_v_mates : I 32 = v_mates) (v_rowOf : (Nat → Int32)) (e_v_rowOf : I 29 = v_rowOf) (v_rowPrices : (Nat → Int64)) (e_v_rowPrices : J 26 = v_rowPrices) {y_v_cameFrom : (Nat → Int32)} {y_v_columnPrices : (Nat → Int64)} {y_v_gaps : (Nat → Int64)} {y_v_isReached : (Nat → Int32)} {y_v_mates : (Nat → Int32)} {y_v_rowOf : (Nat → Int32)} {y_v_rowPrices : (Nat → Int64)} (h : pMatcher_solve N v_cameFrom v_columnPrices v_costs v_gaps v_isReached v_mates v_rowOf v_rowPrices = some (y_v_cameFrom, y_v_columnPrices, y_v_gaps, y_v_isReached, y_v_mates, y_v_rowOf, y_v_rowPrices)) : zMv l yX6_solve cX6_solve 3 none ({ frames := 2, cells := 0, slots := 0, locals := 52 } : Room) X [.ref (X.1 + 13)] (I, J, Rr, D) ((va_up (va_up (va_up (va_up I 29 y_v_rowOf) 30 y_v_cameFrom) 31 y_v_isReached) 32 y_v_mates), (va_up (va_up (va_up J 26 y_v_rowPrices) 27 y_v_columnPrices) 28 y_v_gaps), Rr, D) := by
  refine zMv.of (by decide) (Nat.le_of_ble_eq_true rfl) (fun C E hl hX hQ => ?_)
  subst hl
  subst hX
  have eI0 : (va_up (va_up (va_up (va_up I 29 v_rowOf) 30 v_cameFrom) 31 v_isReached) 32 v_mates) = I := by rw [zup_idE e_v_rowOf, zup_idE e_v_cameFrom, zup_idE e_v_isReached, zup_idE e_v_mates]
  have eJ0 : (va_up (va_up (va_up J 26 v_rowPrices) 27 v_columnPrices) 28 v_gaps) = J := by rw [zup_idE e_v_rowPrices, zup_idE e_v_columnPrices, zup_idE e_v_gaps]
  refine zb_S (S2 := ((va_up (va_up (va_up (va_up I 29 v_rowOf) 30 v_cameFrom) 31 v_isReached) 32 v_mates), (va_up (va_up (va_up J 26 v_rowPrices) 27 v_columnPrices) 28 v_gaps), Rr, D)) (zS_eq eI0.symm eJ0.symm) ?_
  exact c_X6_solve_0 N v_costs e_v_costs y_v_cameFrom y_v_columnPrices y_v_gaps y_v_isReached y_v_mates y_v_rowOf y_v_rowPrices E hQ v_cameFrom v_columnPrices v_gaps v_isReached v_mates v_rowOf v_rowPrices h
-- ChequeredCloth$Matcher.foilOf
theorem dX6_foilOf_0 : decode cX6_foilOf 0 = .ok (.iload_n 1, 1) := by decide +kernel
theorem dX6_foilOf_1 : decode cX6_foilOf 1 = .ok (.invokestatic 49, 3) := by decide +kernel
theorem dX6_foilOf_4 : decode cX6_foilOf 4 = .ok (.ifCond .eq 12, 3) := by decide +kernel
theorem dX6_foilOf_7 : decode cX6_foilOf 7 = .ok (.aload_n 0, 1) := by decide +kernel
theorem dX6_foilOf_8 : decode cX6_foilOf 8 = .ok (.getfield 37, 3) := by decide +kernel
theorem dX6_foilOf_11 : decode cX6_foilOf 11 = .ok (.iload_n 1, 1) := by decide +kernel
theorem dX6_foilOf_12 : decode cX6_foilOf 12 = .ok (.iaload, 1) := by decide +kernel
theorem dX6_foilOf_13 : decode cX6_foilOf 13 = .ok (.goto 4, 3) := by decide +kernel
theorem dX6_foilOf_16 : decode cX6_foilOf 16 = .ok (.iconst (-1), 1) := by decide +kernel
theorem dX6_foilOf_17 : decode cX6_foilOf 17 = .ok (.ireturn, 1) := by decide +kernel
theorem zy_X6_foilOf : zYv yX6_foilOf cX6_foilOf 2 (some .int) 1 := ⟨zw_605, zw_606, zw_4, zw_607, by decide, by decide, by decide⟩
theorem c_X6_foilOf_0 {C : zC} {I : Nat → Nat → Int32} {J : Nat → Nat → Int64} {Rr : Nat → Nat → Option Nat} {D : zD} (a1 : Int32) (v_mates : (Nat → Int32)) (e_v_mates : I 32 = v_mates) (rr : Int32) (E : zE C RX6 cX6_foilOf 2 (some .int) ({ frames := 1, cells := 0, slots := 0, locals := 20 } : Room)) (hQ : C.Q = zQi C ({ frames := 1, cells := 0, slots := 0, locals := 20 } : Room) rr (I, J, Rr, D)) (h : pMatcher_foilOf a1 v_mates = some rr) : zB C (0, 0) 0 [(0, .ref (C.X.1 + 13)), (1, .int a1)] [] (I, J, Rr, D) := by
  refine zb_iload_n E dX6_foilOf_0 1 rfl rfl ?_
  obtain ⟨rc1, hc_1, h⟩ := bd1_s h
  refine zb_cSNi E [.int a1] zy_X11_isStick znw_16 (c_X11_isStick hc_1) (by decide) rfl rfl (by first | decide | simp [Value.category]) dX6_foilOf_1 (cs2 := (0, 0)) rfl ?_
  refine zb_if_eq E dX6_foilOf_4 (tgt := 16) rfl (fun hc => ?_) (fun hc => ?_)
  · have h := if_t h hc
    refine zb_iconst E dX6_foilOf_16 (v := (-1)) rfl ?_
    obtain rfl := zinj1 h
    exact zb_iret E hQ rfl ⟨Nat.zero_le _, Nat.zero_le _⟩ dX6_foilOf_17
  · have h := if_f h hc
    refine zb_aload_n E dX6_foilOf_7 0 rfl rfl ?_
    refine zb_get E 13 (by decide) (zF_13 C.X) rfl zin6 7 (by decide) zw_67 (v := .ref (C.X.1 + 32)) rfl dX6_foilOf_8 ?_
    refine zb_iload_n E dX6_foilOf_11 1 rfl rfl ?_
    obtain ⟨g2, h⟩ := gd_s h
    refine zb_iald E 32 (by decide) zF_32 (f := v_mates) (by exact e_v_mates) (ib_in g2) dX6_foilOf_12 ?_
    refine zb_goto E dX6_foilOf_13 (tgt := 17) rfl ?_
    obtain rfl := zinj1 h
    exact zb_iret E hQ rfl ⟨Nat.zero_le _, Nat.zero_le _⟩ dX6_foilOf_17
theorem c_X6_foilOf {l : Launch} {X : zX} {I : Nat → Nat → Int32} {J : Nat → Nat → Int64} {Rr : Nat → Nat → Option Nat} {D : zD} {a1 : Int32} (v_mates : (Nat → Int32)) (e_v_mates : I 32 = v_mates) {rr : Int32} (h : pMatcher_foilOf a1 v_mates = some rr) : zMi l yX6_foilOf cX6_foilOf 2 (some .int) ({ frames := 1, cells := 0, slots := 0, locals := 20 } : Room) X [.ref (X.1 + 13), .int a1] (I, J, Rr, D) rr (I, J, Rr, D) := by
  refine zMi.of (by decide) (Nat.le_of_ble_eq_true rfl) (fun C E hl hX hQ => ?_)
  subst hl
  subst hX
  have eI0 : I = I := rfl
  have eJ0 : J = J := rfl
  refine zb_S (S2 := (I, J, Rr, D)) (zS_eq eI0.symm eJ0.symm) ?_
  exact c_X6_foilOf_0 a1 v_mates e_v_mates rr E hQ h
