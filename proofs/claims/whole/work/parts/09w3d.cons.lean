set_option maxHeartbeats 1000000
set_option maxRecDepth 100000
theorem zy_X3_init : zYi yX3_init cX3_init 1 0 := ⟨zw_32, rfl, zw_2, zw_33, by decide, by decide, by decide⟩
theorem zy_X7_init : zYi yX7_init cX7_init 1 0 := ⟨zw_133, rfl, zw_6, zw_134, by decide, by decide, by decide⟩
theorem zy_X0_init : zYi yX0_init cX0_init 1 0 := ⟨zw_179, rfl, zw_7, zw_180, by decide, by decide, by decide⟩
theorem zy_X4_init : zYi yX4_init cX4_init 1 0 := ⟨zw_230, rfl, zw_9, zw_231, by decide, by decide, by decide⟩
theorem zy_X12_init : zYi yX12_init cX12_init 1 0 := ⟨zw_1163, rfl, zw_12, zw_1164, by decide, by decide, by decide⟩
theorem dX6_init_0 : decode cX6_init 0 = .ok (.aload_n 0, 1) := by decide +kernel
theorem dX6_init_1 : decode cX6_init 1 = .ok (.invokespecial 5, 3) := by decide +kernel
theorem dX6_init_4 : decode cX6_init 4 = .ok (.aload_n 0, 1) := by decide +kernel
theorem dX6_init_5 : decode cX6_init 5 = .ok (.bipush 11, 2) := by decide +kernel
theorem dX6_init_7 : decode cX6_init 7 = .ok (.bipush 21, 2) := by decide +kernel
theorem dX6_init_9 : decode cX6_init 9 = .ok (.multianewarray 11 2, 4) := by decide +kernel
theorem dX6_init_13 : decode cX6_init 13 = .ok (.putfield 13, 3) := by decide +kernel
theorem dX6_init_16 : decode cX6_init 16 = .ok (.aload_n 0, 1) := by decide +kernel
theorem dX6_init_17 : decode cX6_init 17 = .ok (.bipush 11, 2) := by decide +kernel
theorem dX6_init_19 : decode cX6_init 19 = .ok (.newarray .long, 2) := by decide +kernel
theorem dX6_init_21 : decode cX6_init 21 = .ok (.putfield 16, 3) := by decide +kernel
theorem dX6_init_24 : decode cX6_init 24 = .ok (.aload_n 0, 1) := by decide +kernel
theorem dX6_init_25 : decode cX6_init 25 = .ok (.bipush 21, 2) := by decide +kernel
theorem dX6_init_27 : decode cX6_init 27 = .ok (.newarray .long, 2) := by decide +kernel
theorem dX6_init_29 : decode cX6_init 29 = .ok (.putfield 20, 3) := by decide +kernel
theorem dX6_init_32 : decode cX6_init 32 = .ok (.aload_n 0, 1) := by decide +kernel
theorem dX6_init_33 : decode cX6_init 33 = .ok (.bipush 21, 2) := by decide +kernel
theorem dX6_init_35 : decode cX6_init 35 = .ok (.newarray .long, 2) := by decide +kernel
theorem dX6_init_37 : decode cX6_init 37 = .ok (.putfield 23, 3) := by decide +kernel
theorem dX6_init_40 : decode cX6_init 40 = .ok (.aload_n 0, 1) := by decide +kernel
theorem dX6_init_41 : decode cX6_init 41 = .ok (.bipush 21, 2) := by decide +kernel
theorem dX6_init_43 : decode cX6_init 43 = .ok (.newarray .int, 2) := by decide +kernel
theorem dX6_init_45 : decode cX6_init 45 = .ok (.putfield 26, 3) := by decide +kernel
theorem dX6_init_48 : decode cX6_init 48 = .ok (.aload_n 0, 1) := by decide +kernel
theorem dX6_init_49 : decode cX6_init 49 = .ok (.bipush 21, 2) := by decide +kernel
theorem dX6_init_51 : decode cX6_init 51 = .ok (.newarray .int, 2) := by decide +kernel
theorem dX6_init_53 : decode cX6_init 53 = .ok (.putfield 30, 3) := by decide +kernel
theorem dX6_init_56 : decode cX6_init 56 = .ok (.aload_n 0, 1) := by decide +kernel
theorem dX6_init_57 : decode cX6_init 57 = .ok (.bipush 21, 2) := by decide +kernel
theorem dX6_init_59 : decode cX6_init 59 = .ok (.newarray .boolean, 2) := by decide +kernel
theorem dX6_init_61 : decode cX6_init 61 = .ok (.putfield 33, 3) := by decide +kernel
theorem dX6_init_64 : decode cX6_init 64 = .ok (.aload_n 0, 1) := by decide +kernel
theorem dX6_init_65 : decode cX6_init 65 = .ok (.bipush 10, 2) := by decide +kernel
theorem dX6_init_67 : decode cX6_init 67 = .ok (.newarray .int, 2) := by decide +kernel
theorem dX6_init_69 : decode cX6_init 69 = .ok (.putfield 37, 3) := by decide +kernel
theorem dX6_init_72 : decode cX6_init 72 = .ok (.return_, 1) := by decide +kernel
theorem zy_X6_init : zYi yX6_init cX6_init 1 0 := ⟨zw_55, rfl, zw_4, zw_56, by decide, by decide, by decide⟩
theorem ce_Matcher {l : Launch} {X : zX} {e : Nat → va_E} (he : e 13 = .inr (6, [.null, .null, .null, .null, .null, .null, .null, .null])) : zMve l yX6_init cX6_init 1 none ({ frames := 1, cells := 19, slots := 368, locals := 20 } : Room) X [.ref (X.1 + 13)] (14, e) (33, (va_up (va_up (va_up (va_up (va_up (va_up (va_up (va_up (va_up (va_up (va_up (va_up (va_up (va_up (va_up (va_up (va_up (va_up (va_up (va_up e 14 (.inl (X.2.2.1 7, 11, .inr (.inr (.inr (.inr (fun i => if i < 11 then some (X.1 + (14 + 1 + i)) else none))))))) 15 (.inl (X.2.2.1 1, 21, .inr (.inl (fun _ => 0))))) 16 (.inl (X.2.2.1 1, 21, .inr (.inl (fun _ => 0))))) 17 (.inl (X.2.2.1 1, 21, .inr (.inl (fun _ => 0))))) 18 (.inl (X.2.2.1 1, 21, .inr (.inl (fun _ => 0))))) 19 (.inl (X.2.2.1 1, 21, .inr (.inl (fun _ => 0))))) 20 (.inl (X.2.2.1 1, 21, .inr (.inl (fun _ => 0))))) 21 (.inl (X.2.2.1 1, 21, .inr (.inl (fun _ => 0))))) 22 (.inl (X.2.2.1 1, 21, .inr (.inl (fun _ => 0))))) 23 (.inl (X.2.2.1 1, 21, .inr (.inl (fun _ => 0))))) 24 (.inl (X.2.2.1 1, 21, .inr (.inl (fun _ => 0))))) 25 (.inl (X.2.2.1 1, 21, .inr (.inl (fun _ => 0))))) 26 (.inl (X.2.2.1 1, 11, .inr (.inl (fun _ => 0))))) 27 (.inl (X.2.2.1 1, 21, .inr (.inl (fun _ => 0))))) 28 (.inl (X.2.2.1 1, 21, .inr (.inl (fun _ => 0))))) 29 (.inl (X.2.2.1 0, 21, .inl (fun _ => 0)))) 30 (.inl (X.2.2.1 0, 21, .inl (fun _ => 0)))) 31 (.inl (X.2.2.1 3, 21, .inl (fun _ => 0)))) 32 (.inl (X.2.2.1 0, 10, .inl (fun _ => 0)))) 13 (.inr (6, [.ref (X.1 + 14), .ref (X.1 + 26), .ref (X.1 + 27), .ref (X.1 + 28), .ref (X.1 + 29), .ref (X.1 + 30), .ref (X.1 + 31), .ref (X.1 + 32)])))) := by
  refine zMve.ofI (by decide) (Nat.le_of_ble_eq_true rfl) (fun C E hl hX hQ hin => ?_)
  subst hl
  subst hX
  refine ze_aload_n E dX6_init_0 0 rfl rfl ?_
  refine ze_objinit E zw_57 (by first | decide | simp [Value.category]) (by decide) dX6_init_1 ?_
  refine ze_aload_n E dX6_init_4 0 rfl rfl ?_
  refine ze_bipush E dX6_init_5 (v := 11) rfl ?_
  refine ze_bipush E dX6_init_7 (v := 21) rfl ?_
  refine ze_mna E zw_58 zw_85 (by decide) (by decide) (N := 11) (K := 21) rfl rfl (by decide) (by decide) ⟨by decide, by decide⟩ (c2 := (12, 242)) rfl (n2 := 26) rfl dX6_init_9 ?_
  refine ze_putF E 13 (by decide) (by unfold zmnE; rw [if_neg (by decide), if_neg (by decide)]; exact he) rfl zin6 0 (by decide) zw_60 tyX6 tyX6_ok nmX6 rfl hin rfl rfl rfl (Nat.le_of_ble_eq_true rfl) (fs2 := [.ref (C.X.1 + 14), .null, .null, .null, .null, .null, .null, .null]) rfl rfl dX6_init_13 ?_
  refine ze_aload_n E dX6_init_16 0 rfl rfl ?_
  refine ze_bipush E dX6_init_17 (v := 11) rfl ?_
  refine ze_newaJ E (by decide) (N := 11) rfl (by decide) zw_85 ⟨by decide, by decide⟩ (c2 := (13, 253)) rfl (n2 := 27) rfl dX6_init_19 ?_
  refine ze_putF E 13 (by decide) rfl rfl zin6 1 (by decide) zw_61 tyX6 tyX6_ok nmX6 rfl hin rfl rfl rfl (Nat.le_of_ble_eq_true rfl) (fs2 := [.ref (C.X.1 + 14), .ref (C.X.1 + 26), .null, .null, .null, .null, .null, .null]) rfl rfl dX6_init_21 ?_
  refine ze_aload_n E dX6_init_24 0 rfl rfl ?_
  refine ze_bipush E dX6_init_25 (v := 21) rfl ?_
  refine ze_newaJ E (by decide) (N := 21) rfl (by decide) zw_85 ⟨by decide, by decide⟩ (c2 := (14, 274)) rfl (n2 := 28) rfl dX6_init_27 ?_
  refine ze_putF E 13 (by decide) rfl rfl zin6 2 (by decide) zw_62 tyX6 tyX6_ok nmX6 rfl hin rfl rfl rfl (Nat.le_of_ble_eq_true rfl) (fs2 := [.ref (C.X.1 + 14), .ref (C.X.1 + 26), .ref (C.X.1 + 27), .null, .null, .null, .null, .null]) rfl rfl dX6_init_29 ?_
  refine ze_aload_n E dX6_init_32 0 rfl rfl ?_
  refine ze_bipush E dX6_init_33 (v := 21) rfl ?_
  refine ze_newaJ E (by decide) (N := 21) rfl (by decide) zw_85 ⟨by decide, by decide⟩ (c2 := (15, 295)) rfl (n2 := 29) rfl dX6_init_35 ?_
  refine ze_putF E 13 (by decide) rfl rfl zin6 3 (by decide) zw_63 tyX6 tyX6_ok nmX6 rfl hin rfl rfl rfl (Nat.le_of_ble_eq_true rfl) (fs2 := [.ref (C.X.1 + 14), .ref (C.X.1 + 26), .ref (C.X.1 + 27), .ref (C.X.1 + 28), .null, .null, .null, .null]) rfl rfl dX6_init_37 ?_
  refine ze_aload_n E dX6_init_40 0 rfl rfl ?_
  refine ze_bipush E dX6_init_41 (v := 21) rfl ?_
  refine ze_newaI E (by decide) (N := 21) rfl (by decide) zw_45 ⟨by decide, by decide⟩ (c2 := (16, 316)) rfl (n2 := 30) rfl dX6_init_43 ?_
  refine ze_putF E 13 (by decide) rfl rfl zin6 4 (by decide) zw_64 tyX6 tyX6_ok nmX6 rfl hin rfl rfl rfl (Nat.le_of_ble_eq_true rfl) (fs2 := [.ref (C.X.1 + 14), .ref (C.X.1 + 26), .ref (C.X.1 + 27), .ref (C.X.1 + 28), .ref (C.X.1 + 29), .null, .null, .null]) rfl rfl dX6_init_45 ?_
  refine ze_aload_n E dX6_init_48 0 rfl rfl ?_
  refine ze_bipush E dX6_init_49 (v := 21) rfl ?_
  refine ze_newaI E (by decide) (N := 21) rfl (by decide) zw_45 ⟨by decide, by decide⟩ (c2 := (17, 337)) rfl (n2 := 31) rfl dX6_init_51 ?_
  refine ze_putF E 13 (by decide) rfl rfl zin6 5 (by decide) zw_65 tyX6 tyX6_ok nmX6 rfl hin rfl rfl rfl (Nat.le_of_ble_eq_true rfl) (fs2 := [.ref (C.X.1 + 14), .ref (C.X.1 + 26), .ref (C.X.1 + 27), .ref (C.X.1 + 28), .ref (C.X.1 + 29), .ref (C.X.1 + 30), .null, .null]) rfl rfl dX6_init_53 ?_
  refine ze_aload_n E dX6_init_56 0 rfl rfl ?_
  refine ze_bipush E dX6_init_57 (v := 21) rfl ?_
  refine ze_newaZ E (by decide) (N := 21) rfl (by decide) zw_86 ⟨by decide, by decide⟩ (c2 := (18, 358)) rfl (n2 := 32) rfl dX6_init_59 ?_
  refine ze_putF E 13 (by decide) rfl rfl zin6 6 (by decide) zw_66 tyX6 tyX6_ok nmX6 rfl hin rfl rfl rfl (Nat.le_of_ble_eq_true rfl) (fs2 := [.ref (C.X.1 + 14), .ref (C.X.1 + 26), .ref (C.X.1 + 27), .ref (C.X.1 + 28), .ref (C.X.1 + 29), .ref (C.X.1 + 30), .ref (C.X.1 + 31), .null]) rfl rfl dX6_init_61 ?_
  refine ze_aload_n E dX6_init_64 0 rfl rfl ?_
  refine ze_bipush E dX6_init_65 (v := 10) rfl ?_
  refine ze_newaI E (by decide) (N := 10) rfl (by decide) zw_45 ⟨by decide, by decide⟩ (c2 := (19, 368)) rfl (n2 := 33) rfl dX6_init_67 ?_
  refine ze_putF E 13 (by decide) rfl rfl zin6 7 (by decide) zw_67 tyX6 tyX6_ok nmX6 rfl hin rfl rfl rfl (Nat.le_of_ble_eq_true rfl) (fs2 := [.ref (C.X.1 + 14), .ref (C.X.1 + 26), .ref (C.X.1 + 27), .ref (C.X.1 + 28), .ref (C.X.1 + 29), .ref (C.X.1 + 30), .ref (C.X.1 + 31), .ref (C.X.1 + 32)]) rfl rfl dX6_init_69 ?_
  refine ze_S (e2 := (va_up (va_up (va_up (va_up (va_up (va_up (va_up (va_up (va_up (va_up (va_up (va_up (va_up (va_up (va_up (va_up (va_up (va_up (va_up (va_up e 14 (.inl (C.X.2.2.1 7, 11, .inr (.inr (.inr (.inr (fun i => if i < 11 then some (C.X.1 + (14 + 1 + i)) else none))))))) 15 (.inl (C.X.2.2.1 1, 21, .inr (.inl (fun _ => 0))))) 16 (.inl (C.X.2.2.1 1, 21, .inr (.inl (fun _ => 0))))) 17 (.inl (C.X.2.2.1 1, 21, .inr (.inl (fun _ => 0))))) 18 (.inl (C.X.2.2.1 1, 21, .inr (.inl (fun _ => 0))))) 19 (.inl (C.X.2.2.1 1, 21, .inr (.inl (fun _ => 0))))) 20 (.inl (C.X.2.2.1 1, 21, .inr (.inl (fun _ => 0))))) 21 (.inl (C.X.2.2.1 1, 21, .inr (.inl (fun _ => 0))))) 22 (.inl (C.X.2.2.1 1, 21, .inr (.inl (fun _ => 0))))) 23 (.inl (C.X.2.2.1 1, 21, .inr (.inl (fun _ => 0))))) 24 (.inl (C.X.2.2.1 1, 21, .inr (.inl (fun _ => 0))))) 25 (.inl (C.X.2.2.1 1, 21, .inr (.inl (fun _ => 0))))) 26 (.inl (C.X.2.2.1 1, 11, .inr (.inl (fun _ => 0))))) 27 (.inl (C.X.2.2.1 1, 21, .inr (.inl (fun _ => 0))))) 28 (.inl (C.X.2.2.1 1, 21, .inr (.inl (fun _ => 0))))) 29 (.inl (C.X.2.2.1 0, 21, .inl (fun _ => 0)))) 30 (.inl (C.X.2.2.1 0, 21, .inl (fun _ => 0)))) 31 (.inl (C.X.2.2.1 3, 21, .inl (fun _ => 0)))) 32 (.inl (C.X.2.2.1 0, 10, .inl (fun _ => 0)))) 13 (.inr (6, [.ref (C.X.1 + 14), .ref (C.X.1 + 26), .ref (C.X.1 + 27), .ref (C.X.1 + 28), .ref (C.X.1 + 29), .ref (C.X.1 + 30), .ref (C.X.1 + 31), .ref (C.X.1 + 32)])))) (by
    funext i
    by_cases h14 : i = 14
    · subst h14
      rfl
    by_cases h15 : i = 15
    · subst h15
      rfl
    by_cases h16 : i = 16
    · subst h16
      rfl
    by_cases h17 : i = 17
    · subst h17
      rfl
    by_cases h18 : i = 18
    · subst h18
      rfl
    by_cases h19 : i = 19
    · subst h19
      rfl
    by_cases h20 : i = 20
    · subst h20
      rfl
    by_cases h21 : i = 21
    · subst h21
      rfl
    by_cases h22 : i = 22
    · subst h22
      rfl
    by_cases h23 : i = 23
    · subst h23
      rfl
    by_cases h24 : i = 24
    · subst h24
      rfl
    by_cases h25 : i = 25
    · subst h25
      rfl
    by_cases h26 : i = 26
    · subst h26
      rfl
    by_cases h27 : i = 27
    · subst h27
      rfl
    by_cases h28 : i = 28
    · subst h28
      rfl
    by_cases h29 : i = 29
    · subst h29
      rfl
    by_cases h30 : i = 30
    · subst h30
      rfl
    by_cases h31 : i = 31
    · subst h31
      rfl
    by_cases h32 : i = 32
    · subst h32
      rfl
    by_cases h13 : i = 13
    · subst h13
      rfl
    have hz : zmnE C.X 14 11 21 e i = e i := by
      unfold zmnE
      rw [if_neg h14, if_neg (show ¬ (14 < i ∧ i < 14 + 1 + 11) by omega)]
    simp only [va_up, h14, h15, h16, h17, h18, h19, h20, h21, h22, h23, h24, h25, h26, h27, h28, h29, h30, h31, h32, h13, if_false, hz]) ?_
  exact ze_vret E hQ rfl ⟨by decide, by decide⟩ dX6_init_72
theorem dX2_init_0 : decode cX2_init 0 = .ok (.aload_n 0, 1) := by decide +kernel
theorem dX2_init_1 : decode cX2_init 1 = .ok (.invokespecial 3, 3) := by decide +kernel
theorem dX2_init_4 : decode cX2_init 4 = .ok (.aload_n 0, 1) := by decide +kernel
theorem dX2_init_5 : decode cX2_init 5 = .ok (.sipush 240, 3) := by decide +kernel
theorem dX2_init_8 : decode cX2_init 8 = .ok (.newarray .int, 2) := by decide +kernel
theorem dX2_init_10 : decode cX2_init 10 = .ok (.putfield 11, 3) := by decide +kernel
theorem dX2_init_13 : decode cX2_init 13 = .ok (.aload_n 0, 1) := by decide +kernel
theorem dX2_init_14 : decode cX2_init 14 = .ok (.sipush 240, 3) := by decide +kernel
theorem dX2_init_17 : decode cX2_init 17 = .ok (.newarray .int, 2) := by decide +kernel
theorem dX2_init_19 : decode cX2_init 19 = .ok (.putfield 15, 3) := by decide +kernel
theorem dX2_init_22 : decode cX2_init 22 = .ok (.aload_n 0, 1) := by decide +kernel
theorem dX2_init_23 : decode cX2_init 23 = .ok (.bipush 20, 2) := by decide +kernel
theorem dX2_init_25 : decode cX2_init 25 = .ok (.newarray .int, 2) := by decide +kernel
theorem dX2_init_27 : decode cX2_init 27 = .ok (.putfield 18, 3) := by decide +kernel
theorem dX2_init_30 : decode cX2_init 30 = .ok (.aload_n 0, 1) := by decide +kernel
theorem dX2_init_31 : decode cX2_init 31 = .ok (.bipush 100, 2) := by decide +kernel
theorem dX2_init_33 : decode cX2_init 33 = .ok (.newarray .int, 2) := by decide +kernel
theorem dX2_init_35 : decode cX2_init 35 = .ok (.putfield 21, 3) := by decide +kernel
theorem dX2_init_38 : decode cX2_init 38 = .ok (.aload_n 0, 1) := by decide +kernel
theorem dX2_init_39 : decode cX2_init 39 = .ok (.bipush 13, 2) := by decide +kernel
theorem dX2_init_41 : decode cX2_init 41 = .ok (.newarray .int, 2) := by decide +kernel
theorem dX2_init_43 : decode cX2_init 43 = .ok (.putfield 24, 3) := by decide +kernel
theorem dX2_init_46 : decode cX2_init 46 = .ok (.aload_n 0, 1) := by decide +kernel
theorem dX2_init_47 : decode cX2_init 47 = .ok (.bipush 13, 2) := by decide +kernel
theorem dX2_init_49 : decode cX2_init 49 = .ok (.newarray .int, 2) := by decide +kernel
theorem dX2_init_51 : decode cX2_init 51 = .ok (.putfield 27, 3) := by decide +kernel
theorem dX2_init_54 : decode cX2_init 54 = .ok (.aload_n 0, 1) := by decide +kernel
theorem dX2_init_55 : decode cX2_init 55 = .ok (.bipush 10, 2) := by decide +kernel
theorem dX2_init_57 : decode cX2_init 57 = .ok (.newarray .int, 2) := by decide +kernel
theorem dX2_init_59 : decode cX2_init 59 = .ok (.putfield 30, 3) := by decide +kernel
theorem dX2_init_62 : decode cX2_init 62 = .ok (.aload_n 0, 1) := by decide +kernel
theorem dX2_init_63 : decode cX2_init 63 = .ok (.new 33, 3) := by decide +kernel
theorem dX2_init_66 : decode cX2_init 66 = .ok (.dup, 1) := by decide +kernel
theorem dX2_init_67 : decode cX2_init 67 = .ok (.invokespecial 35, 3) := by decide +kernel
theorem dX2_init_70 : decode cX2_init 70 = .ok (.putfield 36, 3) := by decide +kernel
theorem dX2_init_73 : decode cX2_init 73 = .ok (.aload_n 0, 1) := by decide +kernel
theorem dX2_init_74 : decode cX2_init 74 = .ok (.iconst 3, 1) := by decide +kernel
theorem dX2_init_75 : decode cX2_init 75 = .ok (.putfield 40, 3) := by decide +kernel
theorem dX2_init_78 : decode cX2_init 78 = .ok (.aload_n 0, 1) := by decide +kernel
theorem dX2_init_79 : decode cX2_init 79 = .ok (.bipush 8, 2) := by decide +kernel
theorem dX2_init_81 : decode cX2_init 81 = .ok (.putfield 44, 3) := by decide +kernel
theorem dX2_init_84 : decode cX2_init 84 = .ok (.aload_n 0, 1) := by decide +kernel
theorem dX2_init_85 : decode cX2_init 85 = .ok (.bipush 20, 2) := by decide +kernel
theorem dX2_init_87 : decode cX2_init 87 = .ok (.putfield 47, 3) := by decide +kernel
theorem dX2_init_90 : decode cX2_init 90 = .ok (.aload_n 0, 1) := by decide +kernel
theorem dX2_init_91 : decode cX2_init 91 = .ok (.getfield 21, 3) := by decide +kernel
theorem dX2_init_94 : decode cX2_init 94 = .ok (.bipush (-2), 2) := by decide +kernel
theorem dX2_init_96 : decode cX2_init 96 = .ok (.invokestatic 50, 3) := by decide +kernel
theorem dX2_init_99 : decode cX2_init 99 = .ok (.return_, 1) := by decide +kernel
theorem zy_X2_init : zYi yX2_init cX2_init 1 0 := ⟨zw_49, rfl, zw_3, zw_50, by decide, by decide, by decide⟩
theorem ce_Chest {l : Launch} {X : zX} {e : Nat → va_E} (he : e 5 = .inr (2, [.null, .null, .null, .null, .null, .null, .null, .null, .int 0, .int 0, .int 0, .int 0, .int 0])) : zMve l yX2_init cX2_init 1 none ({ frames := 2, cells := 27, slots := 1012, locals := 40 } : Room) X [.ref (X.1 + 5)] (6, e) (33, (va_up (va_up (va_up (va_up (va_up (va_up (va_up (va_up (va_up (va_up (va_up (va_up (va_up (va_up (va_up (va_up (va_up (va_up (va_up (va_up (va_up (va_up (va_up (va_up (va_up (va_up (va_up (va_up e 6 (.inl (X.2.2.1 0, 240, .inl (fun _ => 0)))) 7 (.inl (X.2.2.1 0, 240, .inl (fun _ => 0)))) 8 (.inl (X.2.2.1 0, 20, .inl (fun _ => 0)))) 9 (.inl (X.2.2.1 0, 100, .inl (fun _ => (-2))))) 10 (.inl (X.2.2.1 0, 13, .inl (fun _ => 0)))) 11 (.inl (X.2.2.1 0, 13, .inl (fun _ => 0)))) 12 (.inl (X.2.2.1 0, 10, .inl (fun _ => 0)))) 13 (.inr (6, [.ref (X.1 + 14), .ref (X.1 + 26), .ref (X.1 + 27), .ref (X.1 + 28), .ref (X.1 + 29), .ref (X.1 + 30), .ref (X.1 + 31), .ref (X.1 + 32)]))) 14 (.inl (X.2.2.1 7, 11, .inr (.inr (.inr (.inr (fun i => if i < 11 then some (X.1 + (14 + 1 + i)) else none))))))) 15 (.inl (X.2.2.1 1, 21, .inr (.inl (fun _ => 0))))) 16 (.inl (X.2.2.1 1, 21, .inr (.inl (fun _ => 0))))) 17 (.inl (X.2.2.1 1, 21, .inr (.inl (fun _ => 0))))) 18 (.inl (X.2.2.1 1, 21, .inr (.inl (fun _ => 0))))) 19 (.inl (X.2.2.1 1, 21, .inr (.inl (fun _ => 0))))) 20 (.inl (X.2.2.1 1, 21, .inr (.inl (fun _ => 0))))) 21 (.inl (X.2.2.1 1, 21, .inr (.inl (fun _ => 0))))) 22 (.inl (X.2.2.1 1, 21, .inr (.inl (fun _ => 0))))) 23 (.inl (X.2.2.1 1, 21, .inr (.inl (fun _ => 0))))) 24 (.inl (X.2.2.1 1, 21, .inr (.inl (fun _ => 0))))) 25 (.inl (X.2.2.1 1, 21, .inr (.inl (fun _ => 0))))) 26 (.inl (X.2.2.1 1, 11, .inr (.inl (fun _ => 0))))) 27 (.inl (X.2.2.1 1, 21, .inr (.inl (fun _ => 0))))) 28 (.inl (X.2.2.1 1, 21, .inr (.inl (fun _ => 0))))) 29 (.inl (X.2.2.1 0, 21, .inl (fun _ => 0)))) 30 (.inl (X.2.2.1 0, 21, .inl (fun _ => 0)))) 31 (.inl (X.2.2.1 3, 21, .inl (fun _ => 0)))) 32 (.inl (X.2.2.1 0, 10, .inl (fun _ => 0)))) 5 (.inr (2, [.ref (X.1 + 6), .ref (X.1 + 7), .ref (X.1 + 8), .ref (X.1 + 9), .ref (X.1 + 10), .ref (X.1 + 11), .ref (X.1 + 12), .ref (X.1 + 13), .int 3, .int 8, .int 20, .int 0, .int 0])))) := by
  refine zMve.ofI (by decide) (Nat.le_of_ble_eq_true rfl) (fun C E hl hX hQ hin => ?_)
  subst hl
  subst hX
  refine ze_aload_n E dX2_init_0 0 rfl rfl ?_
  refine ze_objinit E zw_51 (by first | decide | simp [Value.category]) (by decide) dX2_init_1 ?_
  refine ze_aload_n E dX2_init_4 0 rfl rfl ?_
  refine ze_sipush E dX2_init_5 (v := 240) rfl ?_
  refine ze_newaI E (by decide) (N := 240) rfl (by decide) zw_45 ⟨by decide, by decide⟩ (c2 := (1, 240)) rfl (n2 := 7) rfl dX2_init_8 ?_
  refine ze_putF E 5 (by decide) (by rw [zup_n (by decide)]; exact he) rfl zin2 0 (by decide) zw_90 tyX2 tyX2_ok nmX2 rfl hin rfl rfl rfl (Nat.le_of_ble_eq_true rfl) (fs2 := [.ref (C.X.1 + 6), .null, .null, .null, .null, .null, .null, .null, .int 0, .int 0, .int 0, .int 0, .int 0]) rfl rfl dX2_init_10 ?_
  refine ze_aload_n E dX2_init_13 0 rfl rfl ?_
  refine ze_sipush E dX2_init_14 (v := 240) rfl ?_
  refine ze_newaI E (by decide) (N := 240) rfl (by decide) zw_45 ⟨by decide, by decide⟩ (c2 := (2, 480)) rfl (n2 := 8) rfl dX2_init_17 ?_
  refine ze_putF E 5 (by decide) rfl rfl zin2 1 (by decide) zw_91 tyX2 tyX2_ok nmX2 rfl hin rfl rfl rfl (Nat.le_of_ble_eq_true rfl) (fs2 := [.ref (C.X.1 + 6), .ref (C.X.1 + 7), .null, .null, .null, .null, .null, .null, .int 0, .int 0, .int 0, .int 0, .int 0]) rfl rfl dX2_init_19 ?_
  refine ze_aload_n E dX2_init_22 0 rfl rfl ?_
  refine ze_bipush E dX2_init_23 (v := 20) rfl ?_
  refine ze_newaI E (by decide) (N := 20) rfl (by decide) zw_45 ⟨by decide, by decide⟩ (c2 := (3, 500)) rfl (n2 := 9) rfl dX2_init_25 ?_
  refine ze_putF E 5 (by decide) rfl rfl zin2 2 (by decide) zw_92 tyX2 tyX2_ok nmX2 rfl hin rfl rfl rfl (Nat.le_of_ble_eq_true rfl) (fs2 := [.ref (C.X.1 + 6), .ref (C.X.1 + 7), .ref (C.X.1 + 8), .null, .null, .null, .null, .null, .int 0, .int 0, .int 0, .int 0, .int 0]) rfl rfl dX2_init_27 ?_
  refine ze_aload_n E dX2_init_30 0 rfl rfl ?_
  refine ze_bipush E dX2_init_31 (v := 100) rfl ?_
  refine ze_newaI E (by decide) (N := 100) rfl (by decide) zw_45 ⟨by decide, by decide⟩ (c2 := (4, 600)) rfl (n2 := 10) rfl dX2_init_33 ?_
  refine ze_putF E 5 (by decide) rfl rfl zin2 3 (by decide) zw_93 tyX2 tyX2_ok nmX2 rfl hin rfl rfl rfl (Nat.le_of_ble_eq_true rfl) (fs2 := [.ref (C.X.1 + 6), .ref (C.X.1 + 7), .ref (C.X.1 + 8), .ref (C.X.1 + 9), .null, .null, .null, .null, .int 0, .int 0, .int 0, .int 0, .int 0]) rfl rfl dX2_init_35 ?_
  refine ze_aload_n E dX2_init_38 0 rfl rfl ?_
  refine ze_bipush E dX2_init_39 (v := 13) rfl ?_
  refine ze_newaI E (by decide) (N := 13) rfl (by decide) zw_45 ⟨by decide, by decide⟩ (c2 := (5, 613)) rfl (n2 := 11) rfl dX2_init_41 ?_
  refine ze_putF E 5 (by decide) rfl rfl zin2 4 (by decide) zw_94 tyX2 tyX2_ok nmX2 rfl hin rfl rfl rfl (Nat.le_of_ble_eq_true rfl) (fs2 := [.ref (C.X.1 + 6), .ref (C.X.1 + 7), .ref (C.X.1 + 8), .ref (C.X.1 + 9), .ref (C.X.1 + 10), .null, .null, .null, .int 0, .int 0, .int 0, .int 0, .int 0]) rfl rfl dX2_init_43 ?_
  refine ze_aload_n E dX2_init_46 0 rfl rfl ?_
  refine ze_bipush E dX2_init_47 (v := 13) rfl ?_
  refine ze_newaI E (by decide) (N := 13) rfl (by decide) zw_45 ⟨by decide, by decide⟩ (c2 := (6, 626)) rfl (n2 := 12) rfl dX2_init_49 ?_
  refine ze_putF E 5 (by decide) rfl rfl zin2 5 (by decide) zw_95 tyX2 tyX2_ok nmX2 rfl hin rfl rfl rfl (Nat.le_of_ble_eq_true rfl) (fs2 := [.ref (C.X.1 + 6), .ref (C.X.1 + 7), .ref (C.X.1 + 8), .ref (C.X.1 + 9), .ref (C.X.1 + 10), .ref (C.X.1 + 11), .null, .null, .int 0, .int 0, .int 0, .int 0, .int 0]) rfl rfl dX2_init_51 ?_
  refine ze_aload_n E dX2_init_54 0 rfl rfl ?_
  refine ze_bipush E dX2_init_55 (v := 10) rfl ?_
  refine ze_newaI E (by decide) (N := 10) rfl (by decide) zw_45 ⟨by decide, by decide⟩ (c2 := (7, 636)) rfl (n2 := 13) rfl dX2_init_57 ?_
  refine ze_putF E 5 (by decide) rfl rfl zin2 6 (by decide) zw_96 tyX2 tyX2_ok nmX2 rfl hin rfl rfl rfl (Nat.le_of_ble_eq_true rfl) (fs2 := [.ref (C.X.1 + 6), .ref (C.X.1 + 7), .ref (C.X.1 + 8), .ref (C.X.1 + 9), .ref (C.X.1 + 10), .ref (C.X.1 + 11), .ref (C.X.1 + 12), .null, .int 0, .int 0, .int 0, .int 0, .int 0]) rfl rfl dX2_init_59 ?_
  refine ze_aload_n E dX2_init_62 0 rfl rfl ?_
  refine ze_new E (ci := 6) tyX6 rfl zw_52 zw_53 zw_4 zin6 tyX6_ok (fs := [.null, .null, .null, .null, .null, .null, .null, .null]) (fun j hj => by
    have hj2 : j < 8 := hj
    obtain rfl | rfl | rfl | rfl | rfl | rfl | rfl | rfl : j = 0 ∨ j = 1 ∨ j = 2 ∨ j = 3 ∨ j = 4 ∨ j = 5 ∨ j = 6 ∨ j = 7 := by omega
    all_goals rfl) ⟨by decide, by decide⟩ (c2 := (8, 644)) rfl (n2 := 14) rfl dX2_init_63 ?_
  refine ze_dup E dX2_init_66 rfl ?_
  refine ze_cINv E [] _ zy_X6_init znw_1 (ce_Matcher rfl) ⟨by decide, by decide, by decide, by decide⟩ rfl rfl (by first | decide | simp [Value.category]) dX2_init_67 (cs2 := (27, 1012)) rfl ?_
  refine ze_putF E 5 (by decide) rfl rfl zin2 7 (by decide) zw_97 tyX2 tyX2_ok nmX2 rfl hin rfl rfl rfl (Nat.le_of_ble_eq_true rfl) (fs2 := [.ref (C.X.1 + 6), .ref (C.X.1 + 7), .ref (C.X.1 + 8), .ref (C.X.1 + 9), .ref (C.X.1 + 10), .ref (C.X.1 + 11), .ref (C.X.1 + 12), .ref (C.X.1 + 13), .int 0, .int 0, .int 0, .int 0, .int 0]) rfl rfl dX2_init_70 ?_
  refine ze_aload_n E dX2_init_73 0 rfl rfl ?_
  refine ze_iconst E dX2_init_74 (v := 3) rfl ?_
  refine ze_put E 5 (by decide) rfl rfl zin2 8 (by decide) zw_98 tyX2 tyX2_ok nmX2 rfl rfl rfl (Nat.le_of_ble_eq_true rfl) (fs2 := [.ref (C.X.1 + 6), .ref (C.X.1 + 7), .ref (C.X.1 + 8), .ref (C.X.1 + 9), .ref (C.X.1 + 10), .ref (C.X.1 + 11), .ref (C.X.1 + 12), .ref (C.X.1 + 13), .int 3, .int 0, .int 0, .int 0, .int 0]) rfl rfl dX2_init_75 ?_
  refine ze_aload_n E dX2_init_78 0 rfl rfl ?_
  refine ze_bipush E dX2_init_79 (v := 8) rfl ?_
  refine ze_put E 5 (by decide) rfl rfl zin2 9 (by decide) zw_99 tyX2 tyX2_ok nmX2 rfl rfl rfl (Nat.le_of_ble_eq_true rfl) (fs2 := [.ref (C.X.1 + 6), .ref (C.X.1 + 7), .ref (C.X.1 + 8), .ref (C.X.1 + 9), .ref (C.X.1 + 10), .ref (C.X.1 + 11), .ref (C.X.1 + 12), .ref (C.X.1 + 13), .int 3, .int 8, .int 0, .int 0, .int 0]) rfl rfl dX2_init_81 ?_
  refine ze_aload_n E dX2_init_84 0 rfl rfl ?_
  refine ze_bipush E dX2_init_85 (v := 20) rfl ?_
  refine ze_put E 5 (by decide) rfl rfl zin2 10 (by decide) zw_100 tyX2 tyX2_ok nmX2 rfl rfl rfl (Nat.le_of_ble_eq_true rfl) (fs2 := [.ref (C.X.1 + 6), .ref (C.X.1 + 7), .ref (C.X.1 + 8), .ref (C.X.1 + 9), .ref (C.X.1 + 10), .ref (C.X.1 + 11), .ref (C.X.1 + 12), .ref (C.X.1 + 13), .int 3, .int 8, .int 20, .int 0, .int 0]) rfl rfl dX2_init_87 ?_
  refine ze_aload_n E dX2_init_90 0 rfl rfl ?_
  refine ze_get E 5 (by decide) rfl rfl zin2 3 (by decide) zw_93 rfl dX2_init_91 ?_
  refine ze_bipush E dX2_init_94 (v := (-2)) rfl ?_
  refine ze_cSv E [.ref (C.X.1 + 9), .int (-2)] zy_J7_fill_53178 zw_87 (ce_fill 9 33 (by decide) rfl (by decide)) ⟨by decide, by decide, by decide, by decide⟩ rfl rfl (by first | decide | simp [Value.category]) dX2_init_96 (cs2 := (27, 1012)) rfl ?_
  refine ze_S (e2 := (va_up (va_up (va_up (va_up (va_up (va_up (va_up (va_up (va_up (va_up (va_up (va_up (va_up (va_up (va_up (va_up (va_up (va_up (va_up (va_up (va_up (va_up (va_up (va_up (va_up (va_up (va_up (va_up e 6 (.inl (C.X.2.2.1 0, 240, .inl (fun _ => 0)))) 7 (.inl (C.X.2.2.1 0, 240, .inl (fun _ => 0)))) 8 (.inl (C.X.2.2.1 0, 20, .inl (fun _ => 0)))) 9 (.inl (C.X.2.2.1 0, 100, .inl (fun _ => (-2))))) 10 (.inl (C.X.2.2.1 0, 13, .inl (fun _ => 0)))) 11 (.inl (C.X.2.2.1 0, 13, .inl (fun _ => 0)))) 12 (.inl (C.X.2.2.1 0, 10, .inl (fun _ => 0)))) 13 (.inr (6, [.ref (C.X.1 + 14), .ref (C.X.1 + 26), .ref (C.X.1 + 27), .ref (C.X.1 + 28), .ref (C.X.1 + 29), .ref (C.X.1 + 30), .ref (C.X.1 + 31), .ref (C.X.1 + 32)]))) 14 (.inl (C.X.2.2.1 7, 11, .inr (.inr (.inr (.inr (fun i => if i < 11 then some (C.X.1 + (14 + 1 + i)) else none))))))) 15 (.inl (C.X.2.2.1 1, 21, .inr (.inl (fun _ => 0))))) 16 (.inl (C.X.2.2.1 1, 21, .inr (.inl (fun _ => 0))))) 17 (.inl (C.X.2.2.1 1, 21, .inr (.inl (fun _ => 0))))) 18 (.inl (C.X.2.2.1 1, 21, .inr (.inl (fun _ => 0))))) 19 (.inl (C.X.2.2.1 1, 21, .inr (.inl (fun _ => 0))))) 20 (.inl (C.X.2.2.1 1, 21, .inr (.inl (fun _ => 0))))) 21 (.inl (C.X.2.2.1 1, 21, .inr (.inl (fun _ => 0))))) 22 (.inl (C.X.2.2.1 1, 21, .inr (.inl (fun _ => 0))))) 23 (.inl (C.X.2.2.1 1, 21, .inr (.inl (fun _ => 0))))) 24 (.inl (C.X.2.2.1 1, 21, .inr (.inl (fun _ => 0))))) 25 (.inl (C.X.2.2.1 1, 21, .inr (.inl (fun _ => 0))))) 26 (.inl (C.X.2.2.1 1, 11, .inr (.inl (fun _ => 0))))) 27 (.inl (C.X.2.2.1 1, 21, .inr (.inl (fun _ => 0))))) 28 (.inl (C.X.2.2.1 1, 21, .inr (.inl (fun _ => 0))))) 29 (.inl (C.X.2.2.1 0, 21, .inl (fun _ => 0)))) 30 (.inl (C.X.2.2.1 0, 21, .inl (fun _ => 0)))) 31 (.inl (C.X.2.2.1 3, 21, .inl (fun _ => 0)))) 32 (.inl (C.X.2.2.1 0, 10, .inl (fun _ => 0)))) 5 (.inr (2, [.ref (C.X.1 + 6), .ref (C.X.1 + 7), .ref (C.X.1 + 8), .ref (C.X.1 + 9), .ref (C.X.1 + 10), .ref (C.X.1 + 11), .ref (C.X.1 + 12), .ref (C.X.1 + 13), .int 3, .int 8, .int 20, .int 0, .int 0])))) (by
    funext i
    by_cases h6 : i = 6
    · subst h6
      rfl
    by_cases h7 : i = 7
    · subst h7
      rfl
    by_cases h8 : i = 8
    · subst h8
      rfl
    by_cases h9 : i = 9
    · subst h9
      rfl
    by_cases h10 : i = 10
    · subst h10
      rfl
    by_cases h11 : i = 11
    · subst h11
      rfl
    by_cases h12 : i = 12
    · subst h12
      rfl
    by_cases h13 : i = 13
    · subst h13
      rfl
    by_cases h14 : i = 14
    · subst h14
      rfl
    by_cases h15 : i = 15
    · subst h15
      rfl
    by_cases h16 : i = 16
    · subst h16
      rfl
    by_cases h17 : i = 17
    · subst h17
      rfl
    by_cases h18 : i = 18
    · subst h18
      rfl
    by_cases h19 : i = 19
    · subst h19
      rfl
    by_cases h20 : i = 20
    · subst h20
      rfl
    by_cases h21 : i = 21
    · subst h21
      rfl
    by_cases h22 : i = 22
    · subst h22
      rfl
    by_cases h23 : i = 23
    · subst h23
      rfl
    by_cases h24 : i = 24
    · subst h24
      rfl
    by_cases h25 : i = 25
    · subst h25
      rfl
    by_cases h26 : i = 26
    · subst h26
      rfl
    by_cases h27 : i = 27
    · subst h27
      rfl
    by_cases h28 : i = 28
    · subst h28
      rfl
    by_cases h29 : i = 29
    · subst h29
      rfl
    by_cases h30 : i = 30
    · subst h30
      rfl
    by_cases h31 : i = 31
    · subst h31
      rfl
    by_cases h32 : i = 32
    · subst h32
      rfl
    by_cases h5 : i = 5
    · subst h5
      rfl
    simp only [va_up, h6, h7, h8, h9, h10, h11, h12, h13, h14, h15, h16, h17, h18, h19, h20, h21, h22, h23, h24, h25, h26, h27, h28, h29, h30, h31, h32, h5, if_false]) ?_
  exact ze_vret E hQ rfl ⟨by decide, by decide⟩ dX2_init_99
