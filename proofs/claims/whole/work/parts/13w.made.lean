set_option maxHeartbeats 4000000
set_option maxRecDepth 100000
-- ChequeredCloth$Statement.<init>
theorem dX9_init_0 : decode cX9_init 0 = .ok (.aload_n 0, 1) := by decide +kernel
theorem dX9_init_1 : decode cX9_init 1 = .ok (.invokespecial 1, 3) := by decide +kernel
theorem dX9_init_4 : decode cX9_init 4 = .ok (.return_, 1) := by decide +kernel
theorem zy_X9_init : zYi yX9_init cX9_init 1 0 := ⟨zw_650, rfl, zw_15, zw_651, by decide, by decide, by decide⟩
theorem c_X9_init_0 {C : zC} {I : Nat → Nat → Int32} {J : Nat → Nat → Int64} {Rr : Nat → Nat → Option Nat} {D : zD} (t0 : Nat) (E : zE C RX9 cX9_init 1 none ({ frames := 1, cells := 0, slots := 0, locals := 20 } : Room)) (hin : C.2.2.2.2.2.2.2.2.1.name = "<init>") (hQ : C.Q = zQv C ({ frames := 1, cells := 0, slots := 0, locals := 20 } : Room) (I, J, Rr, D)) (h : pStatement_init t0 = some ()) : zB C (0, 0) 0 [(0, .ref (C.X.1 + 182 + t0))] [] (I, J, Rr, D) := by
  refine zb_aload_n E dX9_init_0 0 rfl rfl ?_
  refine zb_objinit E zw_652 (by first | decide | simp [Value.category]) (by decide) dX9_init_1 ?_
  exact zb_vret E hQ rfl ⟨Nat.zero_le _, Nat.zero_le _⟩ dX9_init_4
theorem c_X9_init {l : Launch} {X : zX} {I : Nat → Nat → Int32} {J : Nat → Nat → Int64} {Rr : Nat → Nat → Option Nat} {D : zD} {t0 : Nat} (h : pStatement_init t0 = some ()) : zMv l yX9_init cX9_init 1 none ({ frames := 1, cells := 0, slots := 0, locals := 20 } : Room) X [.ref (X.1 + 182 + t0)] (I, J, Rr, D) (I, J, Rr, D) := by
  refine zMv.ofI (by decide) (Nat.le_of_ble_eq_true rfl) (fun C E hl hX hQ hin => ?_)
  subst hl
  subst hX
  have eI0 : I = I := rfl
  have eJ0 : J = J := rfl
  refine zb_S (S2 := (I, J, Rr, D)) (zS_eq eI0.symm eJ0.symm) ?_
  exact c_X9_init_0 t0 E hin hQ h
-- ChequeredCloth$Writ.<init>
theorem dX10_init_0 : decode cX10_init 0 = .ok (.aload_n 0, 1) := by decide +kernel
theorem dX10_init_1 : decode cX10_init 1 = .ok (.invokespecial 1, 3) := by decide +kernel
theorem dX10_init_4 : decode cX10_init 4 = .ok (.aload_n 0, 1) := by decide +kernel
theorem dX10_init_5 : decode cX10_init 5 = .ok (.iload_n 2, 1) := by decide +kernel
theorem dX10_init_6 : decode cX10_init 6 = .ok (.anewarray 7, 3) := by decide +kernel
theorem dX10_init_9 : decode cX10_init 9 = .ok (.putfield 9, 3) := by decide +kernel
theorem dX10_init_12 : decode cX10_init 12 = .ok (.aload_n 1, 1) := by decide +kernel
theorem dX10_init_13 : decode cX10_init 13 = .ok (.iconst 0, 1) := by decide +kernel
theorem dX10_init_14 : decode cX10_init 14 = .ok (.aload_n 0, 1) := by decide +kernel
theorem dX10_init_15 : decode cX10_init 15 = .ok (.getfield 9, 3) := by decide +kernel
theorem dX10_init_18 : decode cX10_init 18 = .ok (.iconst 0, 1) := by decide +kernel
theorem dX10_init_19 : decode cX10_init 19 = .ok (.iload_n 2, 1) := by decide +kernel
theorem dX10_init_20 : decode cX10_init 20 = .ok (.invokestatic 15, 3) := by decide +kernel
theorem dX10_init_23 : decode cX10_init 23 = .ok (.aload_n 0, 1) := by decide +kernel
theorem dX10_init_24 : decode cX10_init 24 = .ok (.aload_n 3, 1) := by decide +kernel
theorem dX10_init_25 : decode cX10_init 25 = .ok (.iload 4, 2) := by decide +kernel
theorem dX10_init_27 : decode cX10_init 27 = .ok (.invokestatic 21, 3) := by decide +kernel
theorem dX10_init_30 : decode cX10_init 30 = .ok (.putfield 27, 3) := by decide +kernel
theorem dX10_init_33 : decode cX10_init 33 = .ok (.return_, 1) := by decide +kernel
theorem zy_X10_init : zYi yX10_init cX10_init 5 4 := ⟨zw_828, rfl, zw_20, zw_829, by decide, by decide, by decide⟩
theorem c_X10_init_0 {C : zC} {I : Nat → Nat → Int32} {J : Nat → Nat → Int64} {Rr : Nat → Nat → Option Nat}  (t0 : Nat) (a2 : Int32) (a4 : Int32) (v_a1 : (Nat → Option Nat)) (e_v_a1 : Rr 36 = v_a1) (v_a3 : (Nat → Int32)) (e_v_a3 : I 35 = v_a3) (y_v_D : Dyn) (E : zE C RX10 cX10_init 5 none ({ frames := 3, cells := 2, slots := 624, locals := 142 } : Room)) (hin : C.2.2.2.2.2.2.2.2.1.name = "<init>") (hQ : C.Q = zQv C ({ frames := 3, cells := 2, slots := 624, locals := 142 } : Room) (I, J, Rr, y_v_D)) (v_D : Dyn) (h : pWrit_init t0 a2 a4 v_a1 v_a3 v_D = some y_v_D) : zB C (0, 0) 0 [(0, .ref (C.X.1 + 182 + t0)), (1, .ref (C.X.1 + 36)), (2, .int a2), (3, .ref (C.X.1 + 35)), (4, .int a4)] [] (I, J, Rr, v_D) := by
  refine zb_aload_n E dX10_init_0 0 rfl rfl ?_
  refine zb_objinit E zw_830 (by first | decide | simp [Value.category, zva_cat]) (by decide) dX10_init_1 ?_
  refine zb_aload_n E dX10_init_4 0 rfl rfl ?_
  refine zb_iload_n E dX10_init_5 2 rfl rfl ?_
  obtain ⟨g2, h⟩ := gd_s h
  obtain ⟨y1, hb_y1, h⟩ := bd1_s h
  refine zb_dnewA E zw_831 hb_y1 g2 (by decide) dX10_init_6 ?_
  obtain ⟨v_D3, hb_v_D3, h⟩ := bd1_s h
  obtain ⟨hy_v_D3, hz_v_D3, hf_v_D3, ho_v_D3, hn_v_D3⟩ := dPR_f (X := C.X) hb_v_D3 (by decide)
  refine zb_dputF E t0 hy_v_D3 hz_v_D3 rfl zin10 0 (by decide) zw_845 tyX10 tyX10_ok nmX10 rfl hin rfl rfl rfl (D2 := v_D3) hf_v_D3 (zWr_lt (by decide)) ho_v_D3 hn_v_D3 dX10_init_9 ?_
  refine zb_aload_n E dX10_init_12 1 rfl rfl ?_
  refine zb_iconst E dX10_init_13 (v := 0) rfl ?_
  refine zb_aload_n E dX10_init_14 0 rfl rfl ?_
  obtain ⟨d4, hb_d4, h⟩ := bd1_s h
  obtain ⟨⟨hy_d4, hz_d4⟩, hv_d4⟩ := dGR_s hb_d4
  refine zb_dget E t0 hy_d4 (zDe_1 hz_d4) rfl zin10 0 (by decide) zw_845 (v := va_rf (zq C.X d4)) (by exact congrArg (fun z => some (va_rf (zq C.X z))) hv_d4) dX10_init_15 ?_
  refine zb_iconst E dX10_init_18 (v := 0) rfl ?_
  refine zb_iload_n E dX10_init_19 2 rfl rfl ?_
  obtain ⟨y5, hq_y5, h⟩ := bd1_s h
  refine zb_LS (lv2 := [(0, .ref (C.X.1 + 182 + t0)), (1, .ref (C.X.1 + 36)), (2, .int a2), (3, .ref (C.X.1 + 35)), (4, .int a4)]) (st2 := [.int a2, .int 0, .ref (C.X.1 + 182 + y5), .int 0, .ref (C.X.1 + 36)]) (by first | rfl | (rw [hq_y5]; rfl)) (by first | rfl | (rw [hq_y5]; rfl)) ?_
  obtain ⟨v_D6, hb_v_D6, h⟩ := bd1_s h
  refine zb_dcopyR E 36 (by decide) zF_36 (f := v_a1) e_v_a1 hb_v_D6 zw_832 (by decide) (by first | decide | simp [Value.category, zva_cat]) dX10_init_20 ?_
  refine zb_aload_n E dX10_init_23 0 rfl rfl ?_
  refine zb_aload_n E dX10_init_24 3 rfl rfl ?_
  refine zb_iload E dX10_init_25 4 rfl ?_
  obtain ⟨g8, h⟩ := gd_s h
  obtain ⟨y7, hb_y7, h⟩ := bd1_s h
  refine zb_copyOf E 35 (by decide) zF_35 (f := v_a3) e_v_a3 hb_y7 g8 zw_833 (by decide) (by first | decide | simp [Value.category, zva_cat]) dX10_init_27 ?_
  obtain ⟨v_D9, hb_v_D9, h⟩ := bd1_s h
  obtain ⟨hy_v_D9, hz_v_D9, hf_v_D9, ho_v_D9, hn_v_D9⟩ := dPR_f (X := C.X) hb_v_D9 (by decide)
  refine zb_dputF E t0 hy_v_D9 hz_v_D9 rfl zin10 1 (by decide) zw_848 tyX10 tyX10_ok nmX10 rfl hin rfl rfl rfl (D2 := v_D9) hf_v_D9 (zWr_lt (by decide)) ho_v_D9 hn_v_D9 dX10_init_30 ?_
  obtain rfl := zinj1 h
  exact zb_vret E hQ rfl ⟨by decide, by decide⟩ dX10_init_33
theorem c_X10_init {l : Launch} {X : zX} {I : Nat → Nat → Int32} {J : Nat → Nat → Int64} {Rr : Nat → Nat → Option Nat} {v_D : zD} {t0 : Nat} {a2 : Int32} {a4 : Int32} (v_a1 : (Nat → Option Nat)) (e_v_a1 : Rr 36 = v_a1) (v_a3 : (Nat → Int32)) (e_v_a3 : I 35 = v_a3) {y_v_D : Dyn} (h : pWrit_init t0 a2 a4 v_a1 v_a3 v_D = some y_v_D) : zMv l yX10_init cX10_init 5 none ({ frames := 3, cells := 2, slots := 624, locals := 142 } : Room) X [.ref (X.1 + 182 + t0), .ref (X.1 + 36), .int a2, .ref (X.1 + 35), .int a4] (I, J, Rr, v_D) (I, J, Rr, y_v_D) := by
  refine zMv.ofI (by decide) (Nat.le_of_ble_eq_true rfl) (fun C E hl hX hQ hin => ?_)
  subst hl
  subst hX
  have eI0 : I = I := rfl
  have eJ0 : J = J := rfl
  refine zb_S (S2 := (I, J, Rr, v_D)) (zS_eq eI0.symm eJ0.symm) ?_
  exact c_X10_init_0 t0 a2 a4 v_a1 e_v_a1 v_a3 e_v_a3 y_v_D E hin hQ v_D h
