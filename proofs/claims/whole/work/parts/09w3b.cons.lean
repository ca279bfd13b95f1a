set_option maxHeartbeats 1000000
set_option maxRecDepth 100000
theorem dX5_init_0 : decode cX5_init 0 = .ok (.aload_n 0, 1) := by decide +kernel
theorem dX5_init_1 : decode cX5_init 1 = .ok (.invokespecial 3, 3) := by decide +kernel
theorem dX5_init_4 : decode cX5_init 4 = .ok (.aload_n 0, 1) := by decide +kernel
theorem dX5_init_5 : decode cX5_init 5 = .ok (.bipush 40, 2) := by decide +kernel
theorem dX5_init_7 : decode cX5_init 7 = .ok (.newarray .int, 2) := by decide +kernel
theorem dX5_init_9 : decode cX5_init 9 = .ok (.putfield 9, 3) := by decide +kernel
theorem dX5_init_12 : decode cX5_init 12 = .ok (.aload_n 0, 1) := by decide +kernel
theorem dX5_init_13 : decode cX5_init 13 = .ok (.bipush 40, 2) := by decide +kernel
theorem dX5_init_15 : decode cX5_init 15 = .ok (.newarray .int, 2) := by decide +kernel
theorem dX5_init_17 : decode cX5_init 17 = .ok (.putfield 15, 3) := by decide +kernel
theorem dX5_init_20 : decode cX5_init 20 = .ok (.aload_n 0, 1) := by decide +kernel
theorem dX5_init_21 : decode cX5_init 21 = .ok (.bipush 40, 2) := by decide +kernel
theorem dX5_init_23 : decode cX5_init 23 = .ok (.newarray .int, 2) := by decide +kernel
theorem dX5_init_25 : decode cX5_init 25 = .ok (.putfield 18, 3) := by decide +kernel
theorem dX5_init_28 : decode cX5_init 28 = .ok (.aload_n 0, 1) := by decide +kernel
theorem dX5_init_29 : decode cX5_init 29 = .ok (.sipush 201, 3) := by decide +kernel
theorem dX5_init_32 : decode cX5_init 32 = .ok (.newarray .int, 2) := by decide +kernel
theorem dX5_init_34 : decode cX5_init 34 = .ok (.putfield 21, 3) := by decide +kernel
theorem dX5_init_37 : decode cX5_init 37 = .ok (.aload_n 0, 1) := by decide +kernel
theorem dX5_init_38 : decode cX5_init 38 = .ok (.aload_n 1, 1) := by decide +kernel
theorem dX5_init_39 : decode cX5_init 39 = .ok (.putfield 24, 3) := by decide +kernel
theorem dX5_init_42 : decode cX5_init 42 = .ok (.return_, 1) := by decide +kernel
theorem zy_X5_init : zYi yX5_init cX5_init 2 1 := ⟨zw_252, rfl, zw_10, zw_253, by decide, by decide, by decide⟩
theorem ce_Known48 {l : Launch} {X : zX} {e : Nat → va_E} (he : e 48 = .inr (5, [.null, .null, .null, .null, .null])) : zMve l yX5_init cX5_init 2 none ({ frames := 1, cells := 4, slots := 321, locals := 20 } : Room) X [.ref (X.1 + 48), .ref (X.1 + 37)] (49, e) (53, (va_up (va_up (va_up (va_up (va_up e 49 (.inl (X.2.2.1 0, 40, .inl (fun _ => 0)))) 50 (.inl (X.2.2.1 0, 40, .inl (fun _ => 0)))) 51 (.inl (X.2.2.1 0, 40, .inl (fun _ => 0)))) 52 (.inl (X.2.2.1 0, 201, .inl (fun _ => 0)))) 48 (.inr (5, [.ref (X.1 + 37), .ref (X.1 + 49), .ref (X.1 + 50), .ref (X.1 + 51), .ref (X.1 + 52)])))) := by
  refine zMve.ofI (by decide) (Nat.le_of_ble_eq_true rfl) (fun C E hl hX hQ hin => ?_)
  subst hl
  subst hX
  refine ze_aload_n E dX5_init_0 0 rfl rfl ?_
  refine ze_objinit E zw_254 (by first | decide | simp [Value.category]) (by decide) dX5_init_1 ?_
  refine ze_aload_n E dX5_init_4 0 rfl rfl ?_
  refine ze_bipush E dX5_init_5 (v := 40) rfl ?_
  refine ze_newaI E (by decide) (N := 40) rfl (by decide) zw_45 ⟨by decide, by decide⟩ (c2 := (1, 40)) rfl (n2 := 50) rfl dX5_init_7 ?_
  refine ze_putF E 48 (by decide) (by rw [zup_n (by decide)]; exact he) rfl zin5 1 (by decide) zw_256 tyX5 tyX5_ok nmX5 rfl hin rfl rfl rfl (Nat.le_of_ble_eq_true rfl) (fs2 := [.null, .ref (C.X.1 + 49), .null, .null, .null]) rfl rfl dX5_init_9 ?_
  refine ze_aload_n E dX5_init_12 0 rfl rfl ?_
  refine ze_bipush E dX5_init_13 (v := 40) rfl ?_
  refine ze_newaI E (by decide) (N := 40) rfl (by decide) zw_45 ⟨by decide, by decide⟩ (c2 := (2, 80)) rfl (n2 := 51) rfl dX5_init_15 ?_
  refine ze_putF E 48 (by decide) rfl rfl zin5 2 (by decide) zw_257 tyX5 tyX5_ok nmX5 rfl hin rfl rfl rfl (Nat.le_of_ble_eq_true rfl) (fs2 := [.null, .ref (C.X.1 + 49), .ref (C.X.1 + 50), .null, .null]) rfl rfl dX5_init_17 ?_
  refine ze_aload_n E dX5_init_20 0 rfl rfl ?_
  refine ze_bipush E dX5_init_21 (v := 40) rfl ?_
  refine ze_newaI E (by decide) (N := 40) rfl (by decide) zw_45 ⟨by decide, by decide⟩ (c2 := (3, 120)) rfl (n2 := 52) rfl dX5_init_23 ?_
  refine ze_putF E 48 (by decide) rfl rfl zin5 3 (by decide) zw_258 tyX5 tyX5_ok nmX5 rfl hin rfl rfl rfl (Nat.le_of_ble_eq_true rfl) (fs2 := [.null, .ref (C.X.1 + 49), .ref (C.X.1 + 50), .ref (C.X.1 + 51), .null]) rfl rfl dX5_init_25 ?_
  refine ze_aload_n E dX5_init_28 0 rfl rfl ?_
  refine ze_sipush E dX5_init_29 (v := 201) rfl ?_
  refine ze_newaI E (by decide) (N := 201) rfl (by decide) zw_45 ⟨by decide, by decide⟩ (c2 := (4, 321)) rfl (n2 := 53) rfl dX5_init_32 ?_
  refine ze_putF E 48 (by decide) rfl rfl zin5 4 (by decide) zw_259 tyX5 tyX5_ok nmX5 rfl hin rfl rfl rfl (Nat.le_of_ble_eq_true rfl) (fs2 := [.null, .ref (C.X.1 + 49), .ref (C.X.1 + 50), .ref (C.X.1 + 51), .ref (C.X.1 + 52)]) rfl rfl dX5_init_34 ?_
  refine ze_aload_n E dX5_init_37 0 rfl rfl ?_
  refine ze_aload_n E dX5_init_38 1 rfl rfl ?_
  refine ze_putF E 48 (by decide) rfl rfl zin5 0 (by decide) zw_255 tyX5 tyX5_ok nmX5 rfl hin rfl rfl rfl (Nat.le_of_ble_eq_true rfl) (fs2 := [.ref (C.X.1 + 37), .ref (C.X.1 + 49), .ref (C.X.1 + 50), .ref (C.X.1 + 51), .ref (C.X.1 + 52)]) rfl rfl dX5_init_39 ?_
  refine ze_S (e2 := (va_up (va_up (va_up (va_up (va_up e 49 (.inl (C.X.2.2.1 0, 40, .inl (fun _ => 0)))) 50 (.inl (C.X.2.2.1 0, 40, .inl (fun _ => 0)))) 51 (.inl (C.X.2.2.1 0, 40, .inl (fun _ => 0)))) 52 (.inl (C.X.2.2.1 0, 201, .inl (fun _ => 0)))) 48 (.inr (5, [.ref (C.X.1 + 37), .ref (C.X.1 + 49), .ref (C.X.1 + 50), .ref (C.X.1 + 51), .ref (C.X.1 + 52)])))) (by
    funext i
    by_cases h49 : i = 49
    · subst h49
      rfl
    by_cases h50 : i = 50
    · subst h50
      rfl
    by_cases h51 : i = 51
    · subst h51
      rfl
    by_cases h52 : i = 52
    · subst h52
      rfl
    by_cases h48 : i = 48
    · subst h48
      rfl
    simp only [va_up, h49, h50, h51, h52, h48, if_false]) ?_
  exact ze_vret E hQ rfl ⟨by decide, by decide⟩ dX5_init_42
theorem ce_Known53 {l : Launch} {X : zX} {e : Nat → va_E} (he : e 53 = .inr (5, [.null, .null, .null, .null, .null])) : zMve l yX5_init cX5_init 2 none ({ frames := 1, cells := 4, slots := 321, locals := 20 } : Room) X [.ref (X.1 + 53), .ref (X.1 + 37)] (54, e) (58, (va_up (va_up (va_up (va_up (va_up e 54 (.inl (X.2.2.1 0, 40, .inl (fun _ => 0)))) 55 (.inl (X.2.2.1 0, 40, .inl (fun _ => 0)))) 56 (.inl (X.2.2.1 0, 40, .inl (fun _ => 0)))) 57 (.inl (X.2.2.1 0, 201, .inl (fun _ => 0)))) 53 (.inr (5, [.ref (X.1 + 37), .ref (X.1 + 54), .ref (X.1 + 55), .ref (X.1 + 56), .ref (X.1 + 57)])))) := by
  refine zMve.ofI (by decide) (Nat.le_of_ble_eq_true rfl) (fun C E hl hX hQ hin => ?_)
  subst hl
  subst hX
  refine ze_aload_n E dX5_init_0 0 rfl rfl ?_
  refine ze_objinit E zw_254 (by first | decide | simp [Value.category]) (by decide) dX5_init_1 ?_
  refine ze_aload_n E dX5_init_4 0 rfl rfl ?_
  refine ze_bipush E dX5_init_5 (v := 40) rfl ?_
  refine ze_newaI E (by decide) (N := 40) rfl (by decide) zw_45 ⟨by decide, by decide⟩ (c2 := (1, 40)) rfl (n2 := 55) rfl dX5_init_7 ?_
  refine ze_putF E 53 (by decide) (by rw [zup_n (by decide)]; exact he) rfl zin5 1 (by decide) zw_256 tyX5 tyX5_ok nmX5 rfl hin rfl rfl rfl (Nat.le_of_ble_eq_true rfl) (fs2 := [.null, .ref (C.X.1 + 54), .null, .null, .null]) rfl rfl dX5_init_9 ?_
  refine ze_aload_n E dX5_init_12 0 rfl rfl ?_
  refine ze_bipush E dX5_init_13 (v := 40) rfl ?_
  refine ze_newaI E (by decide) (N := 40) rfl (by decide) zw_45 ⟨by decide, by decide⟩ (c2 := (2, 80)) rfl (n2 := 56) rfl dX5_init_15 ?_
  refine ze_putF E 53 (by decide) rfl rfl zin5 2 (by decide) zw_257 tyX5 tyX5_ok nmX5 rfl hin rfl rfl rfl (Nat.le_of_ble_eq_true rfl) (fs2 := [.null, .ref (C.X.1 + 54), .ref (C.X.1 + 55), .null, .null]) rfl rfl dX5_init_17 ?_
  refine ze_aload_n E dX5_init_20 0 rfl rfl ?_
  refine ze_bipush E dX5_init_21 (v := 40) rfl ?_
  refine ze_newaI E (by decide) (N := 40) rfl (by decide) zw_45 ⟨by decide, by decide⟩ (c2 := (3, 120)) rfl (n2 := 57) rfl dX5_init_23 ?_
  refine ze_putF E 53 (by decide) rfl rfl zin5 3 (by decide) zw_258 tyX5 tyX5_ok nmX5 rfl hin rfl rfl rfl (Nat.le_of_ble_eq_true rfl) (fs2 := [.null, .ref (C.X.1 + 54), .ref (C.X.1 + 55), .ref (C.X.1 + 56), .null]) rfl rfl dX5_init_25 ?_
  refine ze_aload_n E dX5_init_28 0 rfl rfl ?_
  refine ze_sipush E dX5_init_29 (v := 201) rfl ?_
  refine ze_newaI E (by decide) (N := 201) rfl (by decide) zw_45 ⟨by decide, by decide⟩ (c2 := (4, 321)) rfl (n2 := 58) rfl dX5_init_32 ?_
  refine ze_putF E 53 (by decide) rfl rfl zin5 4 (by decide) zw_259 tyX5 tyX5_ok nmX5 rfl hin rfl rfl rfl (Nat.le_of_ble_eq_true rfl) (fs2 := [.null, .ref (C.X.1 + 54), .ref (C.X.1 + 55), .ref (C.X.1 + 56), .ref (C.X.1 + 57)]) rfl rfl dX5_init_34 ?_
  refine ze_aload_n E dX5_init_37 0 rfl rfl ?_
  refine ze_aload_n E dX5_init_38 1 rfl rfl ?_
  refine ze_putF E 53 (by decide) rfl rfl zin5 0 (by decide) zw_255 tyX5 tyX5_ok nmX5 rfl hin rfl rfl rfl (Nat.le_of_ble_eq_true rfl) (fs2 := [.ref (C.X.1 + 37), .ref (C.X.1 + 54), .ref (C.X.1 + 55), .ref (C.X.1 + 56), .ref (C.X.1 + 57)]) rfl rfl dX5_init_39 ?_
  refine ze_S (e2 := (va_up (va_up (va_up (va_up (va_up e 54 (.inl (C.X.2.2.1 0, 40, .inl (fun _ => 0)))) 55 (.inl (C.X.2.2.1 0, 40, .inl (fun _ => 0)))) 56 (.inl (C.X.2.2.1 0, 40, .inl (fun _ => 0)))) 57 (.inl (C.X.2.2.1 0, 201, .inl (fun _ => 0)))) 53 (.inr (5, [.ref (C.X.1 + 37), .ref (C.X.1 + 54), .ref (C.X.1 + 55), .ref (C.X.1 + 56), .ref (C.X.1 + 57)])))) (by
    funext i
    by_cases h54 : i = 54
    · subst h54
      rfl
    by_cases h55 : i = 55
    · subst h55
      rfl
    by_cases h56 : i = 56
    · subst h56
      rfl
    by_cases h57 : i = 57
    · subst h57
      rfl
    by_cases h53 : i = 53
    · subst h53
      rfl
    simp only [va_up, h54, h55, h56, h57, h53, if_false]) ?_
  exact ze_vret E hQ rfl ⟨by decide, by decide⟩ dX5_init_42
theorem dX8_init_0 : decode cX8_init 0 = .ok (.aload_n 0, 1) := by decide +kernel
theorem dX8_init_1 : decode cX8_init 1 = .ok (.invokespecial 3, 3) := by decide +kernel
theorem dX8_init_4 : decode cX8_init 4 = .ok (.aload_n 0, 1) := by decide +kernel
theorem dX8_init_5 : decode cX8_init 5 = .ok (.bipush 40, 2) := by decide +kernel
theorem dX8_init_7 : decode cX8_init 7 = .ok (.newarray .long, 2) := by decide +kernel
theorem dX8_init_9 : decode cX8_init 9 = .ok (.putfield 9, 3) := by decide +kernel
theorem dX8_init_12 : decode cX8_init 12 = .ok (.aload_n 0, 1) := by decide +kernel
theorem dX8_init_13 : decode cX8_init 13 = .ok (.bipush 40, 2) := by decide +kernel
theorem dX8_init_15 : decode cX8_init 15 = .ok (.newarray .long, 2) := by decide +kernel
theorem dX8_init_17 : decode cX8_init 17 = .ok (.putfield 15, 3) := by decide +kernel
theorem dX8_init_20 : decode cX8_init 20 = .ok (.aload_n 0, 1) := by decide +kernel
theorem dX8_init_21 : decode cX8_init 21 = .ok (.bipush 40, 2) := by decide +kernel
theorem dX8_init_23 : decode cX8_init 23 = .ok (.newarray .long, 2) := by decide +kernel
theorem dX8_init_25 : decode cX8_init 25 = .ok (.putfield 18, 3) := by decide +kernel
theorem dX8_init_28 : decode cX8_init 28 = .ok (.aload_n 0, 1) := by decide +kernel
theorem dX8_init_29 : decode cX8_init 29 = .ok (.bipush 40, 2) := by decide +kernel
theorem dX8_init_31 : decode cX8_init 31 = .ok (.newarray .long, 2) := by decide +kernel
theorem dX8_init_33 : decode cX8_init 33 = .ok (.putfield 21, 3) := by decide +kernel
theorem dX8_init_36 : decode cX8_init 36 = .ok (.aload_n 0, 1) := by decide +kernel
theorem dX8_init_37 : decode cX8_init 37 = .ok (.bipush 40, 2) := by decide +kernel
theorem dX8_init_39 : decode cX8_init 39 = .ok (.newarray .long, 2) := by decide +kernel
theorem dX8_init_41 : decode cX8_init 41 = .ok (.putfield 24, 3) := by decide +kernel
theorem dX8_init_44 : decode cX8_init 44 = .ok (.aload_n 0, 1) := by decide +kernel
theorem dX8_init_45 : decode cX8_init 45 = .ok (.sipush 760, 3) := by decide +kernel
theorem dX8_init_48 : decode cX8_init 48 = .ok (.newarray .long, 2) := by decide +kernel
theorem dX8_init_50 : decode cX8_init 50 = .ok (.putfield 27, 3) := by decide +kernel
theorem dX8_init_53 : decode cX8_init 53 = .ok (.aload_n 0, 1) := by decide +kernel
theorem dX8_init_54 : decode cX8_init 54 = .ok (.aload_n 1, 1) := by decide +kernel
theorem dX8_init_55 : decode cX8_init 55 = .ok (.putfield 30, 3) := by decide +kernel
theorem dX8_init_58 : decode cX8_init 58 = .ok (.aload_n 0, 1) := by decide +kernel
theorem dX8_init_59 : decode cX8_init 59 = .ok (.aload_n 2, 1) := by decide +kernel
theorem dX8_init_60 : decode cX8_init 60 = .ok (.putfield 34, 3) := by decide +kernel
theorem dX8_init_63 : decode cX8_init 63 = .ok (.aload_n 0, 1) := by decide +kernel
theorem dX8_init_64 : decode cX8_init 64 = .ok (.aload_n 3, 1) := by decide +kernel
theorem dX8_init_65 : decode cX8_init 65 = .ok (.putfield 38, 3) := by decide +kernel
theorem dX8_init_68 : decode cX8_init 68 = .ok (.aload_n 0, 1) := by decide +kernel
theorem dX8_init_69 : decode cX8_init 69 = .ok (.aload 4, 2) := by decide +kernel
theorem dX8_init_71 : decode cX8_init 71 = .ok (.putfield 42, 3) := by decide +kernel
theorem dX8_init_74 : decode cX8_init 74 = .ok (.return_, 1) := by decide +kernel
theorem zy_X8_init : zYi yX8_init cX8_init 5 4 := ⟨zw_273, rfl, zw_11, zw_274, by decide, by decide, by decide⟩
theorem ce_Roll58 {l : Launch} {X : zX} {e : Nat → va_E} (he : e 58 = .inr (8, [.null, .null, .null, .null, .null, .null, .null, .null, .null, .null, .int 0, .int 0, .long 0, .long 0, .int 0])) : zMve l yX8_init cX8_init 5 none ({ frames := 1, cells := 6, slots := 960, locals := 20 } : Room) X [.ref (X.1 + 58), .ref (X.1 + 37), .ref (X.1 + 5), .ref (X.1 + 48), .ref (X.1 + 46)] (59, e) (65, (va_up (va_up (va_up (va_up (va_up (va_up (va_up e 59 (.inl (X.2.2.1 1, 40, .inr (.inl (fun _ => 0))))) 60 (.inl (X.2.2.1 1, 40, .inr (.inl (fun _ => 0))))) 61 (.inl (X.2.2.1 1, 40, .inr (.inl (fun _ => 0))))) 62 (.inl (X.2.2.1 1, 40, .inr (.inl (fun _ => 0))))) 63 (.inl (X.2.2.1 1, 40, .inr (.inl (fun _ => 0))))) 64 (.inl (X.2.2.1 1, 760, .inr (.inl (fun _ => 0))))) 58 (.inr (8, [.ref (X.1 + 37), .ref (X.1 + 5), .ref (X.1 + 48), .ref (X.1 + 46), .ref (X.1 + 59), .ref (X.1 + 60), .ref (X.1 + 61), .ref (X.1 + 62), .ref (X.1 + 63), .ref (X.1 + 64), .int 0, .int 0, .long 0, .long 0, .int 0])))) := by
  refine zMve.ofI (by decide) (Nat.le_of_ble_eq_true rfl) (fun C E hl hX hQ hin => ?_)
  subst hl
  subst hX
  refine ze_aload_n E dX8_init_0 0 rfl rfl ?_
  refine ze_objinit E zw_275 (by first | decide | simp [Value.category]) (by decide) dX8_init_1 ?_
  refine ze_aload_n E dX8_init_4 0 rfl rfl ?_
  refine ze_bipush E dX8_init_5 (v := 40) rfl ?_
  refine ze_newaJ E (by decide) (N := 40) rfl (by decide) zw_85 ⟨by decide, by decide⟩ (c2 := (1, 40)) rfl (n2 := 60) rfl dX8_init_7 ?_
  refine ze_putF E 58 (by decide) (by rw [zup_n (by decide)]; exact he) rfl zin8 4 (by decide) zw_280 tyX8 tyX8_ok nmX8 rfl hin rfl rfl rfl (Nat.le_of_ble_eq_true rfl) (fs2 := [.null, .null, .null, .null, .ref (C.X.1 + 59), .null, .null, .null, .null, .null, .int 0, .int 0, .long 0, .long 0, .int 0]) rfl rfl dX8_init_9 ?_
  refine ze_aload_n E dX8_init_12 0 rfl rfl ?_
  refine ze_bipush E dX8_init_13 (v := 40) rfl ?_
  refine ze_newaJ E (by decide) (N := 40) rfl (by decide) zw_85 ⟨by decide, by decide⟩ (c2 := (2, 80)) rfl (n2 := 61) rfl dX8_init_15 ?_
  refine ze_putF E 58 (by decide) rfl rfl zin8 5 (by decide) zw_281 tyX8 tyX8_ok nmX8 rfl hin rfl rfl rfl (Nat.le_of_ble_eq_true rfl) (fs2 := [.null, .null, .null, .null, .ref (C.X.1 + 59), .ref (C.X.1 + 60), .null, .null, .null, .null, .int 0, .int 0, .long 0, .long 0, .int 0]) rfl rfl dX8_init_17 ?_
  refine ze_aload_n E dX8_init_20 0 rfl rfl ?_
  refine ze_bipush E dX8_init_21 (v := 40) rfl ?_
  refine ze_newaJ E (by decide) (N := 40) rfl (by decide) zw_85 ⟨by decide, by decide⟩ (c2 := (3, 120)) rfl (n2 := 62) rfl dX8_init_23 ?_
  refine ze_putF E 58 (by decide) rfl rfl zin8 6 (by decide) zw_282 tyX8 tyX8_ok nmX8 rfl hin rfl rfl rfl (Nat.le_of_ble_eq_true rfl) (fs2 := [.null, .null, .null, .null, .ref (C.X.1 + 59), .ref (C.X.1 + 60), .ref (C.X.1 + 61), .null, .null, .null, .int 0, .int 0, .long 0, .long 0, .int 0]) rfl rfl dX8_init_25 ?_
  refine ze_aload_n E dX8_init_28 0 rfl rfl ?_
  refine ze_bipush E dX8_init_29 (v := 40) rfl ?_
  refine ze_newaJ E (by decide) (N := 40) rfl (by decide) zw_85 ⟨by decide, by decide⟩ (c2 := (4, 160)) rfl (n2 := 63) rfl dX8_init_31 ?_
  refine ze_putF E 58 (by decide) rfl rfl zin8 7 (by decide) zw_283 tyX8 tyX8_ok nmX8 rfl hin rfl rfl rfl (Nat.le_of_ble_eq_true rfl) (fs2 := [.null, .null, .null, .null, .ref (C.X.1 + 59), .ref (C.X.1 + 60), .ref (C.X.1 + 61), .ref (C.X.1 + 62), .null, .null, .int 0, .int 0, .long 0, .long 0, .int 0]) rfl rfl dX8_init_33 ?_
  refine ze_aload_n E dX8_init_36 0 rfl rfl ?_
  refine ze_bipush E dX8_init_37 (v := 40) rfl ?_
  refine ze_newaJ E (by decide) (N := 40) rfl (by decide) zw_85 ⟨by decide, by decide⟩ (c2 := (5, 200)) rfl (n2 := 64) rfl dX8_init_39 ?_
  refine ze_putF E 58 (by decide) rfl rfl zin8 8 (by decide) zw_284 tyX8 tyX8_ok nmX8 rfl hin rfl rfl rfl (Nat.le_of_ble_eq_true rfl) (fs2 := [.null, .null, .null, .null, .ref (C.X.1 + 59), .ref (C.X.1 + 60), .ref (C.X.1 + 61), .ref (C.X.1 + 62), .ref (C.X.1 + 63), .null, .int 0, .int 0, .long 0, .long 0, .int 0]) rfl rfl dX8_init_41 ?_
  refine ze_aload_n E dX8_init_44 0 rfl rfl ?_
  refine ze_sipush E dX8_init_45 (v := 760) rfl ?_
  refine ze_newaJ E (by decide) (N := 760) rfl (by decide) zw_85 ⟨by decide, by decide⟩ (c2 := (6, 960)) rfl (n2 := 65) rfl dX8_init_48 ?_
  refine ze_putF E 58 (by decide) rfl rfl zin8 9 (by decide) zw_285 tyX8 tyX8_ok nmX8 rfl hin rfl rfl rfl (Nat.le_of_ble_eq_true rfl) (fs2 := [.null, .null, .null, .null, .ref (C.X.1 + 59), .ref (C.X.1 + 60), .ref (C.X.1 + 61), .ref (C.X.1 + 62), .ref (C.X.1 + 63), .ref (C.X.1 + 64), .int 0, .int 0, .long 0, .long 0, .int 0]) rfl rfl dX8_init_50 ?_
  refine ze_aload_n E dX8_init_53 0 rfl rfl ?_
  refine ze_aload_n E dX8_init_54 1 rfl rfl ?_
  refine ze_putF E 58 (by decide) rfl rfl zin8 0 (by decide) zw_276 tyX8 tyX8_ok nmX8 rfl hin rfl rfl rfl (Nat.le_of_ble_eq_true rfl) (fs2 := [.ref (C.X.1 + 37), .null, .null, .null, .ref (C.X.1 + 59), .ref (C.X.1 + 60), .ref (C.X.1 + 61), .ref (C.X.1 + 62), .ref (C.X.1 + 63), .ref (C.X.1 + 64), .int 0, .int 0, .long 0, .long 0, .int 0]) rfl rfl dX8_init_55 ?_
  refine ze_aload_n E dX8_init_58 0 rfl rfl ?_
  refine ze_aload_n E dX8_init_59 2 rfl rfl ?_
  refine ze_putF E 58 (by decide) rfl rfl zin8 1 (by decide) zw_277 tyX8 tyX8_ok nmX8 rfl hin rfl rfl rfl (Nat.le_of_ble_eq_true rfl) (fs2 := [.ref (C.X.1 + 37), .ref (C.X.1 + 5), .null, .null, .ref (C.X.1 + 59), .ref (C.X.1 + 60), .ref (C.X.1 + 61), .ref (C.X.1 + 62), .ref (C.X.1 + 63), .ref (C.X.1 + 64), .int 0, .int 0, .long 0, .long 0, .int 0]) rfl rfl dX8_init_60 ?_
  refine ze_aload_n E dX8_init_63 0 rfl rfl ?_
  refine ze_aload_n E dX8_init_64 3 rfl rfl ?_
  refine ze_putF E 58 (by decide) rfl rfl zin8 2 (by decide) zw_278 tyX8 tyX8_ok nmX8 rfl hin rfl rfl rfl (Nat.le_of_ble_eq_true rfl) (fs2 := [.ref (C.X.1 + 37), .ref (C.X.1 + 5), .ref (C.X.1 + 48), .null, .ref (C.X.1 + 59), .ref (C.X.1 + 60), .ref (C.X.1 + 61), .ref (C.X.1 + 62), .ref (C.X.1 + 63), .ref (C.X.1 + 64), .int 0, .int 0, .long 0, .long 0, .int 0]) rfl rfl dX8_init_65 ?_
  refine ze_aload_n E dX8_init_68 0 rfl rfl ?_
  refine ze_aload E dX8_init_69 4 rfl ?_
  refine ze_putF E 58 (by decide) rfl rfl zin8 3 (by decide) zw_279 tyX8 tyX8_ok nmX8 rfl hin rfl rfl rfl (Nat.le_of_ble_eq_true rfl) (fs2 := [.ref (C.X.1 + 37), .ref (C.X.1 + 5), .ref (C.X.1 + 48), .ref (C.X.1 + 46), .ref (C.X.1 + 59), .ref (C.X.1 + 60), .ref (C.X.1 + 61), .ref (C.X.1 + 62), .ref (C.X.1 + 63), .ref (C.X.1 + 64), .int 0, .int 0, .long 0, .long 0, .int 0]) rfl rfl dX8_init_71 ?_
  refine ze_S (e2 := (va_up (va_up (va_up (va_up (va_up (va_up (va_up e 59 (.inl (C.X.2.2.1 1, 40, .inr (.inl (fun _ => 0))))) 60 (.inl (C.X.2.2.1 1, 40, .inr (.inl (fun _ => 0))))) 61 (.inl (C.X.2.2.1 1, 40, .inr (.inl (fun _ => 0))))) 62 (.inl (C.X.2.2.1 1, 40, .inr (.inl (fun _ => 0))))) 63 (.inl (C.X.2.2.1 1, 40, .inr (.inl (fun _ => 0))))) 64 (.inl (C.X.2.2.1 1, 760, .inr (.inl (fun _ => 0))))) 58 (.inr (8, [.ref (C.X.1 + 37), .ref (C.X.1 + 5), .ref (C.X.1 + 48), .ref (C.X.1 + 46), .ref (C.X.1 + 59), .ref (C.X.1 + 60), .ref (C.X.1 + 61), .ref (C.X.1 + 62), .ref (C.X.1 + 63), .ref (C.X.1 + 64), .int 0, .int 0, .long 0, .long 0, .int 0])))) (by
    funext i
    by_cases h59 : i = 59
    · subst h59
      rfl
    by_cases h60 : i = 60
    · subst h60
      rfl
    by_cases h61 : i = 61
    · subst h61
      rfl
    by_cases h62 : i = 62
    · subst h62
      rfl
    by_cases h63 : i = 63
    · subst h63
      rfl
    by_cases h64 : i = 64
    · subst h64
      rfl
    by_cases h58 : i = 58
    · subst h58
      rfl
    simp only [va_up, h59, h60, h61, h62, h63, h64, h58, if_false]) ?_
  exact ze_vret E hQ rfl ⟨by decide, by decide⟩ dX8_init_74
theorem ce_Roll65 {l : Launch} {X : zX} {e : Nat → va_E} (he : e 65 = .inr (8, [.null, .null, .null, .null, .null, .null, .null, .null, .null, .null, .int 0, .int 0, .long 0, .long 0, .int 0])) : zMve l yX8_init cX8_init 5 none ({ frames := 1, cells := 6, slots := 960, locals := 20 } : Room) X [.ref (X.1 + 65), .ref (X.1 + 37), .ref (X.1 + 5), .ref (X.1 + 48), .ref (X.1 + 46)] (66, e) (72, (va_up (va_up (va_up (va_up (va_up (va_up (va_up e 66 (.inl (X.2.2.1 1, 40, .inr (.inl (fun _ => 0))))) 67 (.inl (X.2.2.1 1, 40, .inr (.inl (fun _ => 0))))) 68 (.inl (X.2.2.1 1, 40, .inr (.inl (fun _ => 0))))) 69 (.inl (X.2.2.1 1, 40, .inr (.inl (fun _ => 0))))) 70 (.inl (X.2.2.1 1, 40, .inr (.inl (fun _ => 0))))) 71 (.inl (X.2.2.1 1, 760, .inr (.inl (fun _ => 0))))) 65 (.inr (8, [.ref (X.1 + 37), .ref (X.1 + 5), .ref (X.1 + 48), .ref (X.1 + 46), .ref (X.1 + 66), .ref (X.1 + 67), .ref (X.1 + 68), .ref (X.1 + 69), .ref (X.1 + 70), .ref (X.1 + 71), .int 0, .int 0, .long 0, .long 0, .int 0])))) := by
  refine zMve.ofI (by decide) (Nat.le_of_ble_eq_true rfl) (fun C E hl hX hQ hin => ?_)
  subst hl
  subst hX
  refine ze_aload_n E dX8_init_0 0 rfl rfl ?_
  refine ze_objinit E zw_275 (by first | decide | simp [Value.category]) (by decide) dX8_init_1 ?_
  refine ze_aload_n E dX8_init_4 0 rfl rfl ?_
  refine ze_bipush E dX8_init_5 (v := 40) rfl ?_
  refine ze_newaJ E (by decide) (N := 40) rfl (by decide) zw_85 ⟨by decide, by decide⟩ (c2 := (1, 40)) rfl (n2 := 67) rfl dX8_init_7 ?_
  refine ze_putF E 65 (by decide) (by rw [zup_n (by decide)]; exact he) rfl zin8 4 (by decide) zw_280 tyX8 tyX8_ok nmX8 rfl hin rfl rfl rfl (Nat.le_of_ble_eq_true rfl) (fs2 := [.null, .null, .null, .null, .ref (C.X.1 + 66), .null, .null, .null, .null, .null, .int 0, .int 0, .long 0, .long 0, .int 0]) rfl rfl dX8_init_9 ?_
  refine ze_aload_n E dX8_init_12 0 rfl rfl ?_
  refine ze_bipush E dX8_init_13 (v := 40) rfl ?_
  refine ze_newaJ E (by decide) (N := 40) rfl (by decide) zw_85 ⟨by decide, by decide⟩ (c2 := (2, 80)) rfl (n2 := 68) rfl dX8_init_15 ?_
  refine ze_putF E 65 (by decide) rfl rfl zin8 5 (by decide) zw_281 tyX8 tyX8_ok nmX8 rfl hin rfl rfl rfl (Nat.le_of_ble_eq_true rfl) (fs2 := [.null, .null, .null, .null, .ref (C.X.1 + 66), .ref (C.X.1 + 67), .null, .null, .null, .null, .int 0, .int 0, .long 0, .long 0, .int 0]) rfl rfl dX8_init_17 ?_
  refine ze_aload_n E dX8_init_20 0 rfl rfl ?_
  refine ze_bipush E dX8_init_21 (v := 40) rfl ?_
  refine ze_newaJ E (by decide) (N := 40) rfl (by decide) zw_85 ⟨by decide, by decide⟩ (c2 := (3, 120)) rfl (n2 := 69) rfl dX8_init_23 ?_
  refine ze_putF E 65 (by decide) rfl rfl zin8 6 (by decide) zw_282 tyX8 tyX8_ok nmX8 rfl hin rfl rfl rfl (Nat.le_of_ble_eq_true rfl) (fs2 := [.null, .null, .null, .null, .ref (C.X.1 + 66), .ref (C.X.1 + 67), .ref (C.X.1 + 68), .null, .null, .null, .int 0, .int 0, .long 0, .long 0, .int 0]) rfl rfl dX8_init_25 ?_
  refine ze_aload_n E dX8_init_28 0 rfl rfl ?_
  refine ze_bipush E dX8_init_29 (v := 40) rfl ?_
  refine ze_newaJ E (by decide) (N := 40) rfl (by decide) zw_85 ⟨by decide, by decide⟩ (c2 := (4, 160)) rfl (n2 := 70) rfl dX8_init_31 ?_
  refine ze_putF E 65 (by decide) rfl rfl zin8 7 (by decide) zw_283 tyX8 tyX8_ok nmX8 rfl hin rfl rfl rfl (Nat.le_of_ble_eq_true rfl) (fs2 := [.null, .null, .null, .null, .ref (C.X.1 + 66), .ref (C.X.1 + 67), .ref (C.X.1 + 68), .ref (C.X.1 + 69), .null, .null, .int 0, .int 0, .long 0, .long 0, .int 0]) rfl rfl dX8_init_33 ?_
  refine ze_aload_n E dX8_init_36 0 rfl rfl ?_
  refine ze_bipush E dX8_init_37 (v := 40) rfl ?_
  refine ze_newaJ E (by decide) (N := 40) rfl (by decide) zw_85 ⟨by decide, by decide⟩ (c2 := (5, 200)) rfl (n2 := 71) rfl dX8_init_39 ?_
  refine ze_putF E 65 (by decide) rfl rfl zin8 8 (by decide) zw_284 tyX8 tyX8_ok nmX8 rfl hin rfl rfl rfl (Nat.le_of_ble_eq_true rfl) (fs2 := [.null, .null, .null, .null, .ref (C.X.1 + 66), .ref (C.X.1 + 67), .ref (C.X.1 + 68), .ref (C.X.1 + 69), .ref (C.X.1 + 70), .null, .int 0, .int 0, .long 0, .long 0, .int 0]) rfl rfl dX8_init_41 ?_
  refine ze_aload_n E dX8_init_44 0 rfl rfl ?_
  refine ze_sipush E dX8_init_45 (v := 760) rfl ?_
  refine ze_newaJ E (by decide) (N := 760) rfl (by decide) zw_85 ⟨by decide, by decide⟩ (c2 := (6, 960)) rfl (n2 := 72) rfl dX8_init_48 ?_
  refine ze_putF E 65 (by decide) rfl rfl zin8 9 (by decide) zw_285 tyX8 tyX8_ok nmX8 rfl hin rfl rfl rfl (Nat.le_of_ble_eq_true rfl) (fs2 := [.null, .null, .null, .null, .ref (C.X.1 + 66), .ref (C.X.1 + 67), .ref (C.X.1 + 68), .ref (C.X.1 + 69), .ref (C.X.1 + 70), .ref (C.X.1 + 71), .int 0, .int 0, .long 0, .long 0, .int 0]) rfl rfl dX8_init_50 ?_
  refine ze_aload_n E dX8_init_53 0 rfl rfl ?_
  refine ze_aload_n E dX8_init_54 1 rfl rfl ?_
  refine ze_putF E 65 (by decide) rfl rfl zin8 0 (by decide) zw_276 tyX8 tyX8_ok nmX8 rfl hin rfl rfl rfl (Nat.le_of_ble_eq_true rfl) (fs2 := [.ref (C.X.1 + 37), .null, .null, .null, .ref (C.X.1 + 66), .ref (C.X.1 + 67), .ref (C.X.1 + 68), .ref (C.X.1 + 69), .ref (C.X.1 + 70), .ref (C.X.1 + 71), .int 0, .int 0, .long 0, .long 0, .int 0]) rfl rfl dX8_init_55 ?_
  refine ze_aload_n E dX8_init_58 0 rfl rfl ?_
  refine ze_aload_n E dX8_init_59 2 rfl rfl ?_
  refine ze_putF E 65 (by decide) rfl rfl zin8 1 (by decide) zw_277 tyX8 tyX8_ok nmX8 rfl hin rfl rfl rfl (Nat.le_of_ble_eq_true rfl) (fs2 := [.ref (C.X.1 + 37), .ref (C.X.1 + 5), .null, .null, .ref (C.X.1 + 66), .ref (C.X.1 + 67), .ref (C.X.1 + 68), .ref (C.X.1 + 69), .ref (C.X.1 + 70), .ref (C.X.1 + 71), .int 0, .int 0, .long 0, .long 0, .int 0]) rfl rfl dX8_init_60 ?_
  refine ze_aload_n E dX8_init_63 0 rfl rfl ?_
  refine ze_aload_n E dX8_init_64 3 rfl rfl ?_
  refine ze_putF E 65 (by decide) rfl rfl zin8 2 (by decide) zw_278 tyX8 tyX8_ok nmX8 rfl hin rfl rfl rfl (Nat.le_of_ble_eq_true rfl) (fs2 := [.ref (C.X.1 + 37), .ref (C.X.1 + 5), .ref (C.X.1 + 48), .null, .ref (C.X.1 + 66), .ref (C.X.1 + 67), .ref (C.X.1 + 68), .ref (C.X.1 + 69), .ref (C.X.1 + 70), .ref (C.X.1 + 71), .int 0, .int 0, .long 0, .long 0, .int 0]) rfl rfl dX8_init_65 ?_
  refine ze_aload_n E dX8_init_68 0 rfl rfl ?_
  refine ze_aload E dX8_init_69 4 rfl ?_
  refine ze_putF E 65 (by decide) rfl rfl zin8 3 (by decide) zw_279 tyX8 tyX8_ok nmX8 rfl hin rfl rfl rfl (Nat.le_of_ble_eq_true rfl) (fs2 := [.ref (C.X.1 + 37), .ref (C.X.1 + 5), .ref (C.X.1 + 48), .ref (C.X.1 + 46), .ref (C.X.1 + 66), .ref (C.X.1 + 67), .ref (C.X.1 + 68), .ref (C.X.1 + 69), .ref (C.X.1 + 70), .ref (C.X.1 + 71), .int 0, .int 0, .long 0, .long 0, .int 0]) rfl rfl dX8_init_71 ?_
  refine ze_S (e2 := (va_up (va_up (va_up (va_up (va_up (va_up (va_up e 66 (.inl (C.X.2.2.1 1, 40, .inr (.inl (fun _ => 0))))) 67 (.inl (C.X.2.2.1 1, 40, .inr (.inl (fun _ => 0))))) 68 (.inl (C.X.2.2.1 1, 40, .inr (.inl (fun _ => 0))))) 69 (.inl (C.X.2.2.1 1, 40, .inr (.inl (fun _ => 0))))) 70 (.inl (C.X.2.2.1 1, 40, .inr (.inl (fun _ => 0))))) 71 (.inl (C.X.2.2.1 1, 760, .inr (.inl (fun _ => 0))))) 65 (.inr (8, [.ref (C.X.1 + 37), .ref (C.X.1 + 5), .ref (C.X.1 + 48), .ref (C.X.1 + 46), .ref (C.X.1 + 66), .ref (C.X.1 + 67), .ref (C.X.1 + 68), .ref (C.X.1 + 69), .ref (C.X.1 + 70), .ref (C.X.1 + 71), .int 0, .int 0, .long 0, .long 0, .int 0])))) (by
    funext i
    by_cases h66 : i = 66
    · subst h66
      rfl
    by_cases h67 : i = 67
    · subst h67
      rfl
    by_cases h68 : i = 68
    · subst h68
      rfl
    by_cases h69 : i = 69
    · subst h69
      rfl
    by_cases h70 : i = 70
    · subst h70
      rfl
    by_cases h71 : i = 71
    · subst h71
      rfl
    by_cases h65 : i = 65
    · subst h65
      rfl
    simp only [va_up, h66, h67, h68, h69, h70, h71, h65, if_false]) ?_
  exact ze_vret E hQ rfl ⟨by decide, by decide⟩ dX8_init_74
theorem ce_Roll72 {l : Launch} {X : zX} {e : Nat → va_E} (he : e 72 = .inr (8, [.null, .null, .null, .null, .null, .null, .null, .null, .null, .null, .int 0, .int 0, .long 0, .long 0, .int 0])) : zMve l yX8_init cX8_init 5 none ({ frames := 1, cells := 6, slots := 960, locals := 20 } : Room) X [.ref (X.1 + 72), .ref (X.1 + 37), .ref (X.1 + 5), .ref (X.1 + 48), .ref (X.1 + 46)] (73, e) (79, (va_up (va_up (va_up (va_up (va_up (va_up (va_up e 73 (.inl (X.2.2.1 1, 40, .inr (.inl (fun _ => 0))))) 74 (.inl (X.2.2.1 1, 40, .inr (.inl (fun _ => 0))))) 75 (.inl (X.2.2.1 1, 40, .inr (.inl (fun _ => 0))))) 76 (.inl (X.2.2.1 1, 40, .inr (.inl (fun _ => 0))))) 77 (.inl (X.2.2.1 1, 40, .inr (.inl (fun _ => 0))))) 78 (.inl (X.2.2.1 1, 760, .inr (.inl (fun _ => 0))))) 72 (.inr (8, [.ref (X.1 + 37), .ref (X.1 + 5), .ref (X.1 + 48), .ref (X.1 + 46), .ref (X.1 + 73), .ref (X.1 + 74), .ref (X.1 + 75), .ref (X.1 + 76), .ref (X.1 + 77), .ref (X.1 + 78), .int 0, .int 0, .long 0, .long 0, .int 0])))) := by
  refine zMve.ofI (by decide) (Nat.le_of_ble_eq_true rfl) (fun C E hl hX hQ hin => ?_)
  subst hl
  subst hX
  refine ze_aload_n E dX8_init_0 0 rfl rfl ?_
  refine ze_objinit E zw_275 (by first | decide | simp [Value.category]) (by decide) dX8_init_1 ?_
  refine ze_aload_n E dX8_init_4 0 rfl rfl ?_
  refine ze_bipush E dX8_init_5 (v := 40) rfl ?_
  refine ze_newaJ E (by decide) (N := 40) rfl (by decide) zw_85 ⟨by decide, by decide⟩ (c2 := (1, 40)) rfl (n2 := 74) rfl dX8_init_7 ?_
  refine ze_putF E 72 (by decide) (by rw [zup_n (by decide)]; exact he) rfl zin8 4 (by decide) zw_280 tyX8 tyX8_ok nmX8 rfl hin rfl rfl rfl (Nat.le_of_ble_eq_true rfl) (fs2 := [.null, .null, .null, .null, .ref (C.X.1 + 73), .null, .null, .null, .null, .null, .int 0, .int 0, .long 0, .long 0, .int 0]) rfl rfl dX8_init_9 ?_
  refine ze_aload_n E dX8_init_12 0 rfl rfl ?_
  refine ze_bipush E dX8_init_13 (v := 40) rfl ?_
  refine ze_newaJ E (by decide) (N := 40) rfl (by decide) zw_85 ⟨by decide, by decide⟩ (c2 := (2, 80)) rfl (n2 := 75) rfl dX8_init_15 ?_
  refine ze_putF E 72 (by decide) rfl rfl zin8 5 (by decide) zw_281 tyX8 tyX8_ok nmX8 rfl hin rfl rfl rfl (Nat.le_of_ble_eq_true rfl) (fs2 := [.null, .null, .null, .null, .ref (C.X.1 + 73), .ref (C.X.1 + 74), .null, .null, .null, .null, .int 0, .int 0, .long 0, .long 0, .int 0]) rfl rfl dX8_init_17 ?_
  refine ze_aload_n E dX8_init_20 0 rfl rfl ?_
  refine ze_bipush E dX8_init_21 (v := 40) rfl ?_
  refine ze_newaJ E (by decide) (N := 40) rfl (by decide) zw_85 ⟨by decide, by decide⟩ (c2 := (3, 120)) rfl (n2 := 76) rfl dX8_init_23 ?_
  refine ze_putF E 72 (by decide) rfl rfl zin8 6 (by decide) zw_282 tyX8 tyX8_ok nmX8 rfl hin rfl rfl rfl (Nat.le_of_ble_eq_true rfl) (fs2 := [.null, .null, .null, .null, .ref (C.X.1 + 73), .ref (C.X.1 + 74), .ref (C.X.1 + 75), .null, .null, .null, .int 0, .int 0, .long 0, .long 0, .int 0]) rfl rfl dX8_init_25 ?_
  refine ze_aload_n E dX8_init_28 0 rfl rfl ?_
  refine ze_bipush E dX8_init_29 (v := 40) rfl ?_
  refine ze_newaJ E (by decide) (N := 40) rfl (by decide) zw_85 ⟨by decide, by decide⟩ (c2 := (4, 160)) rfl (n2 := 77) rfl dX8_init_31 ?_
  refine ze_putF E 72 (by decide) rfl rfl zin8 7 (by decide) zw_283 tyX8 tyX8_ok nmX8 rfl hin rfl rfl rfl (Nat.le_of_ble_eq_true rfl) (fs2 := [.null, .null, .null, .null, .ref (C.X.1 + 73), .ref (C.X.1 + 74), .ref (C.X.1 + 75), .ref (C.X.1 + 76), .null, .null, .int 0, .int 0, .long 0, .long 0, .int 0]) rfl rfl dX8_init_33 ?_
  refine ze_aload_n E dX8_init_36 0 rfl rfl ?_
  refine ze_bipush E dX8_init_37 (v := 40) rfl ?_
  refine ze_newaJ E (by decide) (N := 40) rfl (by decide) zw_85 ⟨by decide, by decide⟩ (c2 := (5, 200)) rfl (n2 := 78) rfl dX8_init_39 ?_
  refine ze_putF E 72 (by decide) rfl rfl zin8 8 (by decide) zw_284 tyX8 tyX8_ok nmX8 rfl hin rfl rfl rfl (Nat.le_of_ble_eq_true rfl) (fs2 := [.null, .null, .null, .null, .ref (C.X.1 + 73), .ref (C.X.1 + 74), .ref (C.X.1 + 75), .ref (C.X.1 + 76), .ref (C.X.1 + 77), .null, .int 0, .int 0, .long 0, .long 0, .int 0]) rfl rfl dX8_init_41 ?_
  refine ze_aload_n E dX8_init_44 0 rfl rfl ?_
  refine ze_sipush E dX8_init_45 (v := 760) rfl ?_
  refine ze_newaJ E (by decide) (N := 760) rfl (by decide) zw_85 ⟨by decide, by decide⟩ (c2 := (6, 960)) rfl (n2 := 79) rfl dX8_init_48 ?_
  refine ze_putF E 72 (by decide) rfl rfl zin8 9 (by decide) zw_285 tyX8 tyX8_ok nmX8 rfl hin rfl rfl rfl (Nat.le_of_ble_eq_true rfl) (fs2 := [.null, .null, .null, .null, .ref (C.X.1 + 73), .ref (C.X.1 + 74), .ref (C.X.1 + 75), .ref (C.X.1 + 76), .ref (C.X.1 + 77), .ref (C.X.1 + 78), .int 0, .int 0, .long 0, .long 0, .int 0]) rfl rfl dX8_init_50 ?_
  refine ze_aload_n E dX8_init_53 0 rfl rfl ?_
  refine ze_aload_n E dX8_init_54 1 rfl rfl ?_
  refine ze_putF E 72 (by decide) rfl rfl zin8 0 (by decide) zw_276 tyX8 tyX8_ok nmX8 rfl hin rfl rfl rfl (Nat.le_of_ble_eq_true rfl) (fs2 := [.ref (C.X.1 + 37), .null, .null, .null, .ref (C.X.1 + 73), .ref (C.X.1 + 74), .ref (C.X.1 + 75), .ref (C.X.1 + 76), .ref (C.X.1 + 77), .ref (C.X.1 + 78), .int 0, .int 0, .long 0, .long 0, .int 0]) rfl rfl dX8_init_55 ?_
  refine ze_aload_n E dX8_init_58 0 rfl rfl ?_
  refine ze_aload_n E dX8_init_59 2 rfl rfl ?_
  refine ze_putF E 72 (by decide) rfl rfl zin8 1 (by decide) zw_277 tyX8 tyX8_ok nmX8 rfl hin rfl rfl rfl (Nat.le_of_ble_eq_true rfl) (fs2 := [.ref (C.X.1 + 37), .ref (C.X.1 + 5), .null, .null, .ref (C.X.1 + 73), .ref (C.X.1 + 74), .ref (C.X.1 + 75), .ref (C.X.1 + 76), .ref (C.X.1 + 77), .ref (C.X.1 + 78), .int 0, .int 0, .long 0, .long 0, .int 0]) rfl rfl dX8_init_60 ?_
  refine ze_aload_n E dX8_init_63 0 rfl rfl ?_
  refine ze_aload_n E dX8_init_64 3 rfl rfl ?_
  refine ze_putF E 72 (by decide) rfl rfl zin8 2 (by decide) zw_278 tyX8 tyX8_ok nmX8 rfl hin rfl rfl rfl (Nat.le_of_ble_eq_true rfl) (fs2 := [.ref (C.X.1 + 37), .ref (C.X.1 + 5), .ref (C.X.1 + 48), .null, .ref (C.X.1 + 73), .ref (C.X.1 + 74), .ref (C.X.1 + 75), .ref (C.X.1 + 76), .ref (C.X.1 + 77), .ref (C.X.1 + 78), .int 0, .int 0, .long 0, .long 0, .int 0]) rfl rfl dX8_init_65 ?_
  refine ze_aload_n E dX8_init_68 0 rfl rfl ?_
  refine ze_aload E dX8_init_69 4 rfl ?_
  refine ze_putF E 72 (by decide) rfl rfl zin8 3 (by decide) zw_279 tyX8 tyX8_ok nmX8 rfl hin rfl rfl rfl (Nat.le_of_ble_eq_true rfl) (fs2 := [.ref (C.X.1 + 37), .ref (C.X.1 + 5), .ref (C.X.1 + 48), .ref (C.X.1 + 46), .ref (C.X.1 + 73), .ref (C.X.1 + 74), .ref (C.X.1 + 75), .ref (C.X.1 + 76), .ref (C.X.1 + 77), .ref (C.X.1 + 78), .int 0, .int 0, .long 0, .long 0, .int 0]) rfl rfl dX8_init_71 ?_
  refine ze_S (e2 := (va_up (va_up (va_up (va_up (va_up (va_up (va_up e 73 (.inl (C.X.2.2.1 1, 40, .inr (.inl (fun _ => 0))))) 74 (.inl (C.X.2.2.1 1, 40, .inr (.inl (fun _ => 0))))) 75 (.inl (C.X.2.2.1 1, 40, .inr (.inl (fun _ => 0))))) 76 (.inl (C.X.2.2.1 1, 40, .inr (.inl (fun _ => 0))))) 77 (.inl (C.X.2.2.1 1, 40, .inr (.inl (fun _ => 0))))) 78 (.inl (C.X.2.2.1 1, 760, .inr (.inl (fun _ => 0))))) 72 (.inr (8, [.ref (C.X.1 + 37), .ref (C.X.1 + 5), .ref (C.X.1 + 48), .ref (C.X.1 + 46), .ref (C.X.1 + 73), .ref (C.X.1 + 74), .ref (C.X.1 + 75), .ref (C.X.1 + 76), .ref (C.X.1 + 77), .ref (C.X.1 + 78), .int 0, .int 0, .long 0, .long 0, .int 0])))) (by
    funext i
    by_cases h73 : i = 73
    · subst h73
      rfl
    by_cases h74 : i = 74
    · subst h74
      rfl
    by_cases h75 : i = 75
    · subst h75
      rfl
    by_cases h76 : i = 76
    · subst h76
      rfl
    by_cases h77 : i = 77
    · subst h77
      rfl
    by_cases h78 : i = 78
    · subst h78
      rfl
    by_cases h72 : i = 72
    · subst h72
      rfl
    simp only [va_up, h73, h74, h75, h76, h77, h78, h72, if_false]) ?_
  exact ze_vret E hQ rfl ⟨by decide, by decide⟩ dX8_init_74
theorem ce_Roll79 {l : Launch} {X : zX} {e : Nat → va_E} (he : e 79 = .inr (8, [.null, .null, .null, .null, .null, .null, .null, .null, .null, .null, .int 0, .int 0, .long 0, .long 0, .int 0])) : zMve l yX8_init cX8_init 5 none ({ frames := 1, cells := 6, slots := 960, locals := 20 } : Room) X [.ref (X.1 + 79), .ref (X.1 + 37), .ref (X.1 + 5), .ref (X.1 + 48), .ref (X.1 + 46)] (80, e) (86, (va_up (va_up (va_up (va_up (va_up (va_up (va_up e 80 (.inl (X.2.2.1 1, 40, .inr (.inl (fun _ => 0))))) 81 (.inl (X.2.2.1 1, 40, .inr (.inl (fun _ => 0))))) 82 (.inl (X.2.2.1 1, 40, .inr (.inl (fun _ => 0))))) 83 (.inl (X.2.2.1 1, 40, .inr (.inl (fun _ => 0))))) 84 (.inl (X.2.2.1 1, 40, .inr (.inl (fun _ => 0))))) 85 (.inl (X.2.2.1 1, 760, .inr (.inl (fun _ => 0))))) 79 (.inr (8, [.ref (X.1 + 37), .ref (X.1 + 5), .ref (X.1 + 48), .ref (X.1 + 46), .ref (X.1 + 80), .ref (X.1 + 81), .ref (X.1 + 82), .ref (X.1 + 83), .ref (X.1 + 84), .ref (X.1 + 85), .int 0, .int 0, .long 0, .long 0, .int 0])))) := by
  refine zMve.ofI (by decide) (Nat.le_of_ble_eq_true rfl) (fun C E hl hX hQ hin => ?_)
  subst hl
  subst hX
  refine ze_aload_n E dX8_init_0 0 rfl rfl ?_
  refine ze_objinit E zw_275 (by first | decide | simp [Value.category]) (by decide) dX8_init_1 ?_
  refine ze_aload_n E dX8_init_4 0 rfl rfl ?_
  refine ze_bipush E dX8_init_5 (v := 40) rfl ?_
  refine ze_newaJ E (by decide) (N := 40) rfl (by decide) zw_85 ⟨by decide, by decide⟩ (c2 := (1, 40)) rfl (n2 := 81) rfl dX8_init_7 ?_
  refine ze_putF E 79 (by decide) (by rw [zup_n (by decide)]; exact he) rfl zin8 4 (by decide) zw_280 tyX8 tyX8_ok nmX8 rfl hin rfl rfl rfl (Nat.le_of_ble_eq_true rfl) (fs2 := [.null, .null, .null, .null, .ref (C.X.1 + 80), .null, .null, .null, .null, .null, .int 0, .int 0, .long 0, .long 0, .int 0]) rfl rfl dX8_init_9 ?_
  refine ze_aload_n E dX8_init_12 0 rfl rfl ?_
  refine ze_bipush E dX8_init_13 (v := 40) rfl ?_
  refine ze_newaJ E (by decide) (N := 40) rfl (by decide) zw_85 ⟨by decide, by decide⟩ (c2 := (2, 80)) rfl (n2 := 82) rfl dX8_init_15 ?_
  refine ze_putF E 79 (by decide) rfl rfl zin8 5 (by decide) zw_281 tyX8 tyX8_ok nmX8 rfl hin rfl rfl rfl (Nat.le_of_ble_eq_true rfl) (fs2 := [.null, .null, .null, .null, .ref (C.X.1 + 80), .ref (C.X.1 + 81), .null, .null, .null, .null, .int 0, .int 0, .long 0, .long 0, .int 0]) rfl rfl dX8_init_17 ?_
  refine ze_aload_n E dX8_init_20 0 rfl rfl ?_
  refine ze_bipush E dX8_init_21 (v := 40) rfl ?_
  refine ze_newaJ E (by decide) (N := 40) rfl (by decide) zw_85 ⟨by decide, by decide⟩ (c2 := (3, 120)) rfl (n2 := 83) rfl dX8_init_23 ?_
  refine ze_putF E 79 (by decide) rfl rfl zin8 6 (by decide) zw_282 tyX8 tyX8_ok nmX8 rfl hin rfl rfl rfl (Nat.le_of_ble_eq_true rfl) (fs2 := [.null, .null, .null, .null, .ref (C.X.1 + 80), .ref (C.X.1 + 81), .ref (C.X.1 + 82), .null, .null, .null, .int 0, .int 0, .long 0, .long 0, .int 0]) rfl rfl dX8_init_25 ?_
  refine ze_aload_n E dX8_init_28 0 rfl rfl ?_
  refine ze_bipush E dX8_init_29 (v := 40) rfl ?_
  refine ze_newaJ E (by decide) (N := 40) rfl (by decide) zw_85 ⟨by decide, by decide⟩ (c2 := (4, 160)) rfl (n2 := 84) rfl dX8_init_31 ?_
  refine ze_putF E 79 (by decide) rfl rfl zin8 7 (by decide) zw_283 tyX8 tyX8_ok nmX8 rfl hin rfl rfl rfl (Nat.le_of_ble_eq_true rfl) (fs2 := [.null, .null, .null, .null, .ref (C.X.1 + 80), .ref (C.X.1 + 81), .ref (C.X.1 + 82), .ref (C.X.1 + 83), .null, .null, .int 0, .int 0, .long 0, .long 0, .int 0]) rfl rfl dX8_init_33 ?_
  refine ze_aload_n E dX8_init_36 0 rfl rfl ?_
  refine ze_bipush E dX8_init_37 (v := 40) rfl ?_
  refine ze_newaJ E (by decide) (N := 40) rfl (by decide) zw_85 ⟨by decide, by decide⟩ (c2 := (5, 200)) rfl (n2 := 85) rfl dX8_init_39 ?_
  refine ze_putF E 79 (by decide) rfl rfl zin8 8 (by decide) zw_284 tyX8 tyX8_ok nmX8 rfl hin rfl rfl rfl (Nat.le_of_ble_eq_true rfl) (fs2 := [.null, .null, .null, .null, .ref (C.X.1 + 80), .ref (C.X.1 + 81), .ref (C.X.1 + 82), .ref (C.X.1 + 83), .ref (C.X.1 + 84), .null, .int 0, .int 0, .long 0, .long 0, .int 0]) rfl rfl dX8_init_41 ?_
  refine ze_aload_n E dX8_init_44 0 rfl rfl ?_
  refine ze_sipush E dX8_init_45 (v := 760) rfl ?_
  refine ze_newaJ E (by decide) (N := 760) rfl (by decide) zw_85 ⟨by decide, by decide⟩ (c2 := (6, 960)) rfl (n2 := 86) rfl dX8_init_48 ?_
  refine ze_putF E 79 (by decide) rfl rfl zin8 9 (by decide) zw_285 tyX8 tyX8_ok nmX8 rfl hin rfl rfl rfl (Nat.le_of_ble_eq_true rfl) (fs2 := [.null, .null, .null, .null, .ref (C.X.1 + 80), .ref (C.X.1 + 81), .ref (C.X.1 + 82), .ref (C.X.1 + 83), .ref (C.X.1 + 84), .ref (C.X.1 + 85), .int 0, .int 0, .long 0, .long 0, .int 0]) rfl rfl dX8_init_50 ?_
  refine ze_aload_n E dX8_init_53 0 rfl rfl ?_
  refine ze_aload_n E dX8_init_54 1 rfl rfl ?_
  refine ze_putF E 79 (by decide) rfl rfl zin8 0 (by decide) zw_276 tyX8 tyX8_ok nmX8 rfl hin rfl rfl rfl (Nat.le_of_ble_eq_true rfl) (fs2 := [.ref (C.X.1 + 37), .null, .null, .null, .ref (C.X.1 + 80), .ref (C.X.1 + 81), .ref (C.X.1 + 82), .ref (C.X.1 + 83), .ref (C.X.1 + 84), .ref (C.X.1 + 85), .int 0, .int 0, .long 0, .long 0, .int 0]) rfl rfl dX8_init_55 ?_
  refine ze_aload_n E dX8_init_58 0 rfl rfl ?_
  refine ze_aload_n E dX8_init_59 2 rfl rfl ?_
  refine ze_putF E 79 (by decide) rfl rfl zin8 1 (by decide) zw_277 tyX8 tyX8_ok nmX8 rfl hin rfl rfl rfl (Nat.le_of_ble_eq_true rfl) (fs2 := [.ref (C.X.1 + 37), .ref (C.X.1 + 5), .null, .null, .ref (C.X.1 + 80), .ref (C.X.1 + 81), .ref (C.X.1 + 82), .ref (C.X.1 + 83), .ref (C.X.1 + 84), .ref (C.X.1 + 85), .int 0, .int 0, .long 0, .long 0, .int 0]) rfl rfl dX8_init_60 ?_
  refine ze_aload_n E dX8_init_63 0 rfl rfl ?_
  refine ze_aload_n E dX8_init_64 3 rfl rfl ?_
  refine ze_putF E 79 (by decide) rfl rfl zin8 2 (by decide) zw_278 tyX8 tyX8_ok nmX8 rfl hin rfl rfl rfl (Nat.le_of_ble_eq_true rfl) (fs2 := [.ref (C.X.1 + 37), .ref (C.X.1 + 5), .ref (C.X.1 + 48), .null, .ref (C.X.1 + 80), .ref (C.X.1 + 81), .ref (C.X.1 + 82), .ref (C.X.1 + 83), .ref (C.X.1 + 84), .ref (C.X.1 + 85), .int 0, .int 0, .long 0, .long 0, .int 0]) rfl rfl dX8_init_65 ?_
  refine ze_aload_n E dX8_init_68 0 rfl rfl ?_
  refine ze_aload E dX8_init_69 4 rfl ?_
  refine ze_putF E 79 (by decide) rfl rfl zin8 3 (by decide) zw_279 tyX8 tyX8_ok nmX8 rfl hin rfl rfl rfl (Nat.le_of_ble_eq_true rfl) (fs2 := [.ref (C.X.1 + 37), .ref (C.X.1 + 5), .ref (C.X.1 + 48), .ref (C.X.1 + 46), .ref (C.X.1 + 80), .ref (C.X.1 + 81), .ref (C.X.1 + 82), .ref (C.X.1 + 83), .ref (C.X.1 + 84), .ref (C.X.1 + 85), .int 0, .int 0, .long 0, .long 0, .int 0]) rfl rfl dX8_init_71 ?_
  refine ze_S (e2 := (va_up (va_up (va_up (va_up (va_up (va_up (va_up e 80 (.inl (C.X.2.2.1 1, 40, .inr (.inl (fun _ => 0))))) 81 (.inl (C.X.2.2.1 1, 40, .inr (.inl (fun _ => 0))))) 82 (.inl (C.X.2.2.1 1, 40, .inr (.inl (fun _ => 0))))) 83 (.inl (C.X.2.2.1 1, 40, .inr (.inl (fun _ => 0))))) 84 (.inl (C.X.2.2.1 1, 40, .inr (.inl (fun _ => 0))))) 85 (.inl (C.X.2.2.1 1, 760, .inr (.inl (fun _ => 0))))) 79 (.inr (8, [.ref (C.X.1 + 37), .ref (C.X.1 + 5), .ref (C.X.1 + 48), .ref (C.X.1 + 46), .ref (C.X.1 + 80), .ref (C.X.1 + 81), .ref (C.X.1 + 82), .ref (C.X.1 + 83), .ref (C.X.1 + 84), .ref (C.X.1 + 85), .int 0, .int 0, .long 0, .long 0, .int 0])))) (by
    funext i
    by_cases h80 : i = 80
    · subst h80
      rfl
    by_cases h81 : i = 81
    · subst h81
      rfl
    by_cases h82 : i = 82
    · subst h82
      rfl
    by_cases h83 : i = 83
    · subst h83
      rfl
    by_cases h84 : i = 84
    · subst h84
      rfl
    by_cases h85 : i = 85
    · subst h85
      rfl
    by_cases h79 : i = 79
    · subst h79
      rfl
    simp only [va_up, h80, h81, h82, h83, h84, h85, h79, if_false]) ?_
  exact ze_vret E hQ rfl ⟨by decide, by decide⟩ dX8_init_74
theorem ce_Roll86 {l : Launch} {X : zX} {e : Nat → va_E} (he : e 86 = .inr (8, [.null, .null, .null, .null, .null, .null, .null, .null, .null, .null, .int 0, .int 0, .long 0, .long 0, .int 0])) : zMve l yX8_init cX8_init 5 none ({ frames := 1, cells := 6, slots := 960, locals := 20 } : Room) X [.ref (X.1 + 86), .ref (X.1 + 37), .ref (X.1 + 5), .ref (X.1 + 48), .ref (X.1 + 46)] (87, e) (93, (va_up (va_up (va_up (va_up (va_up (va_up (va_up e 87 (.inl (X.2.2.1 1, 40, .inr (.inl (fun _ => 0))))) 88 (.inl (X.2.2.1 1, 40, .inr (.inl (fun _ => 0))))) 89 (.inl (X.2.2.1 1, 40, .inr (.inl (fun _ => 0))))) 90 (.inl (X.2.2.1 1, 40, .inr (.inl (fun _ => 0))))) 91 (.inl (X.2.2.1 1, 40, .inr (.inl (fun _ => 0))))) 92 (.inl (X.2.2.1 1, 760, .inr (.inl (fun _ => 0))))) 86 (.inr (8, [.ref (X.1 + 37), .ref (X.1 + 5), .ref (X.1 + 48), .ref (X.1 + 46), .ref (X.1 + 87), .ref (X.1 + 88), .ref (X.1 + 89), .ref (X.1 + 90), .ref (X.1 + 91), .ref (X.1 + 92), .int 0, .int 0, .long 0, .long 0, .int 0])))) := by
  refine zMve.ofI (by decide) (Nat.le_of_ble_eq_true rfl) (fun C E hl hX hQ hin => ?_)
  subst hl
  subst hX
  refine ze_aload_n E dX8_init_0 0 rfl rfl ?_
  refine ze_objinit E zw_275 (by first | decide | simp [Value.category]) (by decide) dX8_init_1 ?_
  refine ze_aload_n E dX8_init_4 0 rfl rfl ?_
  refine ze_bipush E dX8_init_5 (v := 40) rfl ?_
  refine ze_newaJ E (by decide) (N := 40) rfl (by decide) zw_85 ⟨by decide, by decide⟩ (c2 := (1, 40)) rfl (n2 := 88) rfl dX8_init_7 ?_
  refine ze_putF E 86 (by decide) (by rw [zup_n (by decide)]; exact he) rfl zin8 4 (by decide) zw_280 tyX8 tyX8_ok nmX8 rfl hin rfl rfl rfl (Nat.le_of_ble_eq_true rfl) (fs2 := [.null, .null, .null, .null, .ref (C.X.1 + 87), .null, .null, .null, .null, .null, .int 0, .int 0, .long 0, .long 0, .int 0]) rfl rfl dX8_init_9 ?_
  refine ze_aload_n E dX8_init_12 0 rfl rfl ?_
  refine ze_bipush E dX8_init_13 (v := 40) rfl ?_
  refine ze_newaJ E (by decide) (N := 40) rfl (by decide) zw_85 ⟨by decide, by decide⟩ (c2 := (2, 80)) rfl (n2 := 89) rfl dX8_init_15 ?_
  refine ze_putF E 86 (by decide) rfl rfl zin8 5 (by decide) zw_281 tyX8 tyX8_ok nmX8 rfl hin rfl rfl rfl (Nat.le_of_ble_eq_true rfl) (fs2 := [.null, .null, .null, .null, .ref (C.X.1 + 87), .ref (C.X.1 + 88), .null, .null, .null, .null, .int 0, .int 0, .long 0, .long 0, .int 0]) rfl rfl dX8_init_17 ?_
  refine ze_aload_n E dX8_init_20 0 rfl rfl ?_
  refine ze_bipush E dX8_init_21 (v := 40) rfl ?_
  refine ze_newaJ E (by decide) (N := 40) rfl (by decide) zw_85 ⟨by decide, by decide⟩ (c2 := (3, 120)) rfl (n2 := 90) rfl dX8_init_23 ?_
  refine ze_putF E 86 (by decide) rfl rfl zin8 6 (by decide) zw_282 tyX8 tyX8_ok nmX8 rfl hin rfl rfl rfl (Nat.le_of_ble_eq_true rfl) (fs2 := [.null, .null, .null, .null, .ref (C.X.1 + 87), .ref (C.X.1 + 88), .ref (C.X.1 + 89), .null, .null, .null, .int 0, .int 0, .long 0, .long 0, .int 0]) rfl rfl dX8_init_25 ?_
  refine ze_aload_n E dX8_init_28 0 rfl rfl ?_
  refine ze_bipush E dX8_init_29 (v := 40) rfl ?_
  refine ze_newaJ E (by decide) (N := 40) rfl (by decide) zw_85 ⟨by decide, by decide⟩ (c2 := (4, 160)) rfl (n2 := 91) rfl dX8_init_31 ?_
  refine ze_putF E 86 (by decide) rfl rfl zin8 7 (by decide) zw_283 tyX8 tyX8_ok nmX8 rfl hin rfl rfl rfl (Nat.le_of_ble_eq_true rfl) (fs2 := [.null, .null, .null, .null, .ref (C.X.1 + 87), .ref (C.X.1 + 88), .ref (C.X.1 + 89), .ref (C.X.1 + 90), .null, .null, .int 0, .int 0, .long 0, .long 0, .int 0]) rfl rfl dX8_init_33 ?_
  refine ze_aload_n E dX8_init_36 0 rfl rfl ?_
  refine ze_bipush E dX8_init_37 (v := 40) rfl ?_
  refine ze_newaJ E (by decide) (N := 40) rfl (by decide) zw_85 ⟨by decide, by decide⟩ (c2 := (5, 200)) rfl (n2 := 92) rfl dX8_init_39 ?_
  refine ze_putF E 86 (by decide) rfl rfl zin8 8 (by decide) zw_284 tyX8 tyX8_ok nmX8 rfl hin rfl rfl rfl (Nat.le_of_ble_eq_true rfl) (fs2 := [.null, .null, .null, .null, .ref (C.X.1 + 87), .ref (C.X.1 + 88), .ref (C.X.1 + 89), .ref (C.X.1 + 90), .ref (C.X.1 + 91), .null, .int 0, .int 0, .long 0, .long 0, .int 0]) rfl rfl dX8_init_41 ?_
  refine ze_aload_n E dX8_init_44 0 rfl rfl ?_
  refine ze_sipush E dX8_init_45 (v := 760) rfl ?_
  refine ze_newaJ E (by decide) (N := 760) rfl (by decide) zw_85 ⟨by decide, by decide⟩ (c2 := (6, 960)) rfl (n2 := 93) rfl dX8_init_48 ?_
  refine ze_putF E 86 (by decide) rfl rfl zin8 9 (by decide) zw_285 tyX8 tyX8_ok nmX8 rfl hin rfl rfl rfl (Nat.le_of_ble_eq_true rfl) (fs2 := [.null, .null, .null, .null, .ref (C.X.1 + 87), .ref (C.X.1 + 88), .ref (C.X.1 + 89), .ref (C.X.1 + 90), .ref (C.X.1 + 91), .ref (C.X.1 + 92), .int 0, .int 0, .long 0, .long 0, .int 0]) rfl rfl dX8_init_50 ?_
  refine ze_aload_n E dX8_init_53 0 rfl rfl ?_
  refine ze_aload_n E dX8_init_54 1 rfl rfl ?_
  refine ze_putF E 86 (by decide) rfl rfl zin8 0 (by decide) zw_276 tyX8 tyX8_ok nmX8 rfl hin rfl rfl rfl (Nat.le_of_ble_eq_true rfl) (fs2 := [.ref (C.X.1 + 37), .null, .null, .null, .ref (C.X.1 + 87), .ref (C.X.1 + 88), .ref (C.X.1 + 89), .ref (C.X.1 + 90), .ref (C.X.1 + 91), .ref (C.X.1 + 92), .int 0, .int 0, .long 0, .long 0, .int 0]) rfl rfl dX8_init_55 ?_
  refine ze_aload_n E dX8_init_58 0 rfl rfl ?_
  refine ze_aload_n E dX8_init_59 2 rfl rfl ?_
  refine ze_putF E 86 (by decide) rfl rfl zin8 1 (by decide) zw_277 tyX8 tyX8_ok nmX8 rfl hin rfl rfl rfl (Nat.le_of_ble_eq_true rfl) (fs2 := [.ref (C.X.1 + 37), .ref (C.X.1 + 5), .null, .null, .ref (C.X.1 + 87), .ref (C.X.1 + 88), .ref (C.X.1 + 89), .ref (C.X.1 + 90), .ref (C.X.1 + 91), .ref (C.X.1 + 92), .int 0, .int 0, .long 0, .long 0, .int 0]) rfl rfl dX8_init_60 ?_
  refine ze_aload_n E dX8_init_63 0 rfl rfl ?_
  refine ze_aload_n E dX8_init_64 3 rfl rfl ?_
  refine ze_putF E 86 (by decide) rfl rfl zin8 2 (by decide) zw_278 tyX8 tyX8_ok nmX8 rfl hin rfl rfl rfl (Nat.le_of_ble_eq_true rfl) (fs2 := [.ref (C.X.1 + 37), .ref (C.X.1 + 5), .ref (C.X.1 + 48), .null, .ref (C.X.1 + 87), .ref (C.X.1 + 88), .ref (C.X.1 + 89), .ref (C.X.1 + 90), .ref (C.X.1 + 91), .ref (C.X.1 + 92), .int 0, .int 0, .long 0, .long 0, .int 0]) rfl rfl dX8_init_65 ?_
  refine ze_aload_n E dX8_init_68 0 rfl rfl ?_
  refine ze_aload E dX8_init_69 4 rfl ?_
  refine ze_putF E 86 (by decide) rfl rfl zin8 3 (by decide) zw_279 tyX8 tyX8_ok nmX8 rfl hin rfl rfl rfl (Nat.le_of_ble_eq_true rfl) (fs2 := [.ref (C.X.1 + 37), .ref (C.X.1 + 5), .ref (C.X.1 + 48), .ref (C.X.1 + 46), .ref (C.X.1 + 87), .ref (C.X.1 + 88), .ref (C.X.1 + 89), .ref (C.X.1 + 90), .ref (C.X.1 + 91), .ref (C.X.1 + 92), .int 0, .int 0, .long 0, .long 0, .int 0]) rfl rfl dX8_init_71 ?_
  refine ze_S (e2 := (va_up (va_up (va_up (va_up (va_up (va_up (va_up e 87 (.inl (C.X.2.2.1 1, 40, .inr (.inl (fun _ => 0))))) 88 (.inl (C.X.2.2.1 1, 40, .inr (.inl (fun _ => 0))))) 89 (.inl (C.X.2.2.1 1, 40, .inr (.inl (fun _ => 0))))) 90 (.inl (C.X.2.2.1 1, 40, .inr (.inl (fun _ => 0))))) 91 (.inl (C.X.2.2.1 1, 40, .inr (.inl (fun _ => 0))))) 92 (.inl (C.X.2.2.1 1, 760, .inr (.inl (fun _ => 0))))) 86 (.inr (8, [.ref (C.X.1 + 37), .ref (C.X.1 + 5), .ref (C.X.1 + 48), .ref (C.X.1 + 46), .ref (C.X.1 + 87), .ref (C.X.1 + 88), .ref (C.X.1 + 89), .ref (C.X.1 + 90), .ref (C.X.1 + 91), .ref (C.X.1 + 92), .int 0, .int 0, .long 0, .long 0, .int 0])))) (by
    funext i
    by_cases h87 : i = 87
    · subst h87
      rfl
    by_cases h88 : i = 88
    · subst h88
      rfl
    by_cases h89 : i = 89
    · subst h89
      rfl
    by_cases h90 : i = 90
    · subst h90
      rfl
    by_cases h91 : i = 91
    · subst h91
      rfl
    by_cases h92 : i = 92
    · subst h92
      rfl
    by_cases h86 : i = 86
    · subst h86
      rfl
    simp only [va_up, h87, h88, h89, h90, h91, h92, h86, if_false]) ?_
  exact ze_vret E hQ rfl ⟨by decide, by decide⟩ dX8_init_74
theorem ce_Roll93 {l : Launch} {X : zX} {e : Nat → va_E} (he : e 93 = .inr (8, [.null, .null, .null, .null, .null, .null, .null, .null, .null, .null, .int 0, .int 0, .long 0, .long 0, .int 0])) : zMve l yX8_init cX8_init 5 none ({ frames := 1, cells := 6, slots := 960, locals := 20 } : Room) X [.ref (X.1 + 93), .ref (X.1 + 37), .ref (X.1 + 5), .ref (X.1 + 48), .ref (X.1 + 46)] (94, e) (100, (va_up (va_up (va_up (va_up (va_up (va_up (va_up e 94 (.inl (X.2.2.1 1, 40, .inr (.inl (fun _ => 0))))) 95 (.inl (X.2.2.1 1, 40, .inr (.inl (fun _ => 0))))) 96 (.inl (X.2.2.1 1, 40, .inr (.inl (fun _ => 0))))) 97 (.inl (X.2.2.1 1, 40, .inr (.inl (fun _ => 0))))) 98 (.inl (X.2.2.1 1, 40, .inr (.inl (fun _ => 0))))) 99 (.inl (X.2.2.1 1, 760, .inr (.inl (fun _ => 0))))) 93 (.inr (8, [.ref (X.1 + 37), .ref (X.1 + 5), .ref (X.1 + 48), .ref (X.1 + 46), .ref (X.1 + 94), .ref (X.1 + 95), .ref (X.1 + 96), .ref (X.1 + 97), .ref (X.1 + 98), .ref (X.1 + 99), .int 0, .int 0, .long 0, .long 0, .int 0])))) := by
  refine zMve.ofI (by decide) (Nat.le_of_ble_eq_true rfl) (fun C E hl hX hQ hin => ?_)
  subst hl
  subst hX
  refine ze_aload_n E dX8_init_0 0 rfl rfl ?_
  refine ze_objinit E zw_275 (by first | decide | simp [Value.category]) (by decide) dX8_init_1 ?_
  refine ze_aload_n E dX8_init_4 0 rfl rfl ?_
  refine ze_bipush E dX8_init_5 (v := 40) rfl ?_
  refine ze_newaJ E (by decide) (N := 40) rfl (by decide) zw_85 ⟨by decide, by decide⟩ (c2 := (1, 40)) rfl (n2 := 95) rfl dX8_init_7 ?_
  refine ze_putF E 93 (by decide) (by rw [zup_n (by decide)]; exact he) rfl zin8 4 (by decide) zw_280 tyX8 tyX8_ok nmX8 rfl hin rfl rfl rfl (Nat.le_of_ble_eq_true rfl) (fs2 := [.null, .null, .null, .null, .ref (C.X.1 + 94), .null, .null, .null, .null, .null, .int 0, .int 0, .long 0, .long 0, .int 0]) rfl rfl dX8_init_9 ?_
  refine ze_aload_n E dX8_init_12 0 rfl rfl ?_
  refine ze_bipush E dX8_init_13 (v := 40) rfl ?_
  refine ze_newaJ E (by decide) (N := 40) rfl (by decide) zw_85 ⟨by decide, by decide⟩ (c2 := (2, 80)) rfl (n2 := 96) rfl dX8_init_15 ?_
  refine ze_putF E 93 (by decide) rfl rfl zin8 5 (by decide) zw_281 tyX8 tyX8_ok nmX8 rfl hin rfl rfl rfl (Nat.le_of_ble_eq_true rfl) (fs2 := [.null, .null, .null, .null, .ref (C.X.1 + 94), .ref (C.X.1 + 95), .null, .null, .null, .null, .int 0, .int 0, .long 0, .long 0, .int 0]) rfl rfl dX8_init_17 ?_
  refine ze_aload_n E dX8_init_20 0 rfl rfl ?_
  refine ze_bipush E dX8_init_21 (v := 40) rfl ?_
  refine ze_newaJ E (by decide) (N := 40) rfl (by decide) zw_85 ⟨by decide, by decide⟩ (c2 := (3, 120)) rfl (n2 := 97) rfl dX8_init_23 ?_
  refine ze_putF E 93 (by decide) rfl rfl zin8 6 (by decide) zw_282 tyX8 tyX8_ok nmX8 rfl hin rfl rfl rfl (Nat.le_of_ble_eq_true rfl) (fs2 := [.null, .null, .null, .null, .ref (C.X.1 + 94), .ref (C.X.1 + 95), .ref (C.X.1 + 96), .null, .null, .null, .int 0, .int 0, .long 0, .long 0, .int 0]) rfl rfl dX8_init_25 ?_
  refine ze_aload_n E dX8_init_28 0 rfl rfl ?_
  refine ze_bipush E dX8_init_29 (v := 40) rfl ?_
  refine ze_newaJ E (by decide) (N := 40) rfl (by decide) zw_85 ⟨by decide, by decide⟩ (c2 := (4, 160)) rfl (n2 := 98) rfl dX8_init_31 ?_
  refine ze_putF E 93 (by decide) rfl rfl zin8 7 (by decide) zw_283 tyX8 tyX8_ok nmX8 rfl hin rfl rfl rfl (Nat.le_of_ble_eq_true rfl) (fs2 := [.null, .null, .null, .null, .ref (C.X.1 + 94), .ref (C.X.1 + 95), .ref (C.X.1 + 96), .ref (C.X.1 + 97), .null, .null, .int 0, .int 0, .long 0, .long 0, .int 0]) rfl rfl dX8_init_33 ?_
  refine ze_aload_n E dX8_init_36 0 rfl rfl ?_
  refine ze_bipush E dX8_init_37 (v := 40) rfl ?_
  refine ze_newaJ E (by decide) (N := 40) rfl (by decide) zw_85 ⟨by decide, by decide⟩ (c2 := (5, 200)) rfl (n2 := 99) rfl dX8_init_39 ?_
  refine ze_putF E 93 (by decide) rfl rfl zin8 8 (by decide) zw_284 tyX8 tyX8_ok nmX8 rfl hin rfl rfl rfl (Nat.le_of_ble_eq_true rfl) (fs2 := [.null, .null, .null, .null, .ref (C.X.1 + 94), .ref (C.X.1 + 95), .ref (C.X.1 + 96), .ref (C.X.1 + 97), .ref (C.X.1 + 98), .null, .int 0, .int 0, .long 0, .long 0, .int 0]) rfl rfl dX8_init_41 ?_
  refine ze_aload_n E dX8_init_44 0 rfl rfl ?_
  refine ze_sipush E dX8_init_45 (v := 760) rfl ?_
  refine ze_newaJ E (by decide) (N := 760) rfl (by decide) zw_85 ⟨by decide, by decide⟩ (c2 := (6, 960)) rfl (n2 := 100) rfl dX8_init_48 ?_
  refine ze_putF E 93 (by decide) rfl rfl zin8 9 (by decide) zw_285 tyX8 tyX8_ok nmX8 rfl hin rfl rfl rfl (Nat.le_of_ble_eq_true rfl) (fs2 := [.null, .null, .null, .null, .ref (C.X.1 + 94), .ref (C.X.1 + 95), .ref (C.X.1 + 96), .ref (C.X.1 + 97), .ref (C.X.1 + 98), .ref (C.X.1 + 99), .int 0, .int 0, .long 0, .long 0, .int 0]) rfl rfl dX8_init_50 ?_
  refine ze_aload_n E dX8_init_53 0 rfl rfl ?_
  refine ze_aload_n E dX8_init_54 1 rfl rfl ?_
  refine ze_putF E 93 (by decide) rfl rfl zin8 0 (by decide) zw_276 tyX8 tyX8_ok nmX8 rfl hin rfl rfl rfl (Nat.le_of_ble_eq_true rfl) (fs2 := [.ref (C.X.1 + 37), .null, .null, .null, .ref (C.X.1 + 94), .ref (C.X.1 + 95), .ref (C.X.1 + 96), .ref (C.X.1 + 97), .ref (C.X.1 + 98), .ref (C.X.1 + 99), .int 0, .int 0, .long 0, .long 0, .int 0]) rfl rfl dX8_init_55 ?_
  refine ze_aload_n E dX8_init_58 0 rfl rfl ?_
  refine ze_aload_n E dX8_init_59 2 rfl rfl ?_
  refine ze_putF E 93 (by decide) rfl rfl zin8 1 (by decide) zw_277 tyX8 tyX8_ok nmX8 rfl hin rfl rfl rfl (Nat.le_of_ble_eq_true rfl) (fs2 := [.ref (C.X.1 + 37), .ref (C.X.1 + 5), .null, .null, .ref (C.X.1 + 94), .ref (C.X.1 + 95), .ref (C.X.1 + 96), .ref (C.X.1 + 97), .ref (C.X.1 + 98), .ref (C.X.1 + 99), .int 0, .int 0, .long 0, .long 0, .int 0]) rfl rfl dX8_init_60 ?_
  refine ze_aload_n E dX8_init_63 0 rfl rfl ?_
  refine ze_aload_n E dX8_init_64 3 rfl rfl ?_
  refine ze_putF E 93 (by decide) rfl rfl zin8 2 (by decide) zw_278 tyX8 tyX8_ok nmX8 rfl hin rfl rfl rfl (Nat.le_of_ble_eq_true rfl) (fs2 := [.ref (C.X.1 + 37), .ref (C.X.1 + 5), .ref (C.X.1 + 48), .null, .ref (C.X.1 + 94), .ref (C.X.1 + 95), .ref (C.X.1 + 96), .ref (C.X.1 + 97), .ref (C.X.1 + 98), .ref (C.X.1 + 99), .int 0, .int 0, .long 0, .long 0, .int 0]) rfl rfl dX8_init_65 ?_
  refine ze_aload_n E dX8_init_68 0 rfl rfl ?_
  refine ze_aload E dX8_init_69 4 rfl ?_
  refine ze_putF E 93 (by decide) rfl rfl zin8 3 (by decide) zw_279 tyX8 tyX8_ok nmX8 rfl hin rfl rfl rfl (Nat.le_of_ble_eq_true rfl) (fs2 := [.ref (C.X.1 + 37), .ref (C.X.1 + 5), .ref (C.X.1 + 48), .ref (C.X.1 + 46), .ref (C.X.1 + 94), .ref (C.X.1 + 95), .ref (C.X.1 + 96), .ref (C.X.1 + 97), .ref (C.X.1 + 98), .ref (C.X.1 + 99), .int 0, .int 0, .long 0, .long 0, .int 0]) rfl rfl dX8_init_71 ?_
  refine ze_S (e2 := (va_up (va_up (va_up (va_up (va_up (va_up (va_up e 94 (.inl (C.X.2.2.1 1, 40, .inr (.inl (fun _ => 0))))) 95 (.inl (C.X.2.2.1 1, 40, .inr (.inl (fun _ => 0))))) 96 (.inl (C.X.2.2.1 1, 40, .inr (.inl (fun _ => 0))))) 97 (.inl (C.X.2.2.1 1, 40, .inr (.inl (fun _ => 0))))) 98 (.inl (C.X.2.2.1 1, 40, .inr (.inl (fun _ => 0))))) 99 (.inl (C.X.2.2.1 1, 760, .inr (.inl (fun _ => 0))))) 93 (.inr (8, [.ref (C.X.1 + 37), .ref (C.X.1 + 5), .ref (C.X.1 + 48), .ref (C.X.1 + 46), .ref (C.X.1 + 94), .ref (C.X.1 + 95), .ref (C.X.1 + 96), .ref (C.X.1 + 97), .ref (C.X.1 + 98), .ref (C.X.1 + 99), .int 0, .int 0, .long 0, .long 0, .int 0])))) (by
    funext i
    by_cases h94 : i = 94
    · subst h94
      rfl
    by_cases h95 : i = 95
    · subst h95
      rfl
    by_cases h96 : i = 96
    · subst h96
      rfl
    by_cases h97 : i = 97
    · subst h97
      rfl
    by_cases h98 : i = 98
    · subst h98
      rfl
    by_cases h99 : i = 99
    · subst h99
      rfl
    by_cases h93 : i = 93
    · subst h93
      rfl
    simp only [va_up, h94, h95, h96, h97, h98, h99, h93, if_false]) ?_
  exact ze_vret E hQ rfl ⟨by decide, by decide⟩ dX8_init_74
theorem ce_Roll100 {l : Launch} {X : zX} {e : Nat → va_E} (he : e 100 = .inr (8, [.null, .null, .null, .null, .null, .null, .null, .null, .null, .null, .int 0, .int 0, .long 0, .long 0, .int 0])) : zMve l yX8_init cX8_init 5 none ({ frames := 1, cells := 6, slots := 960, locals := 20 } : Room) X [.ref (X.1 + 100), .ref (X.1 + 37), .ref (X.1 + 5), .ref (X.1 + 48), .ref (X.1 + 46)] (101, e) (107, (va_up (va_up (va_up (va_up (va_up (va_up (va_up e 101 (.inl (X.2.2.1 1, 40, .inr (.inl (fun _ => 0))))) 102 (.inl (X.2.2.1 1, 40, .inr (.inl (fun _ => 0))))) 103 (.inl (X.2.2.1 1, 40, .inr (.inl (fun _ => 0))))) 104 (.inl (X.2.2.1 1, 40, .inr (.inl (fun _ => 0))))) 105 (.inl (X.2.2.1 1, 40, .inr (.inl (fun _ => 0))))) 106 (.inl (X.2.2.1 1, 760, .inr (.inl (fun _ => 0))))) 100 (.inr (8, [.ref (X.1 + 37), .ref (X.1 + 5), .ref (X.1 + 48), .ref (X.1 + 46), .ref (X.1 + 101), .ref (X.1 + 102), .ref (X.1 + 103), .ref (X.1 + 104), .ref (X.1 + 105), .ref (X.1 + 106), .int 0, .int 0, .long 0, .long 0, .int 0])))) := by
  refine zMve.ofI (by decide) (Nat.le_of_ble_eq_true rfl) (fun C E hl hX hQ hin => ?_)
  subst hl
  subst hX
  refine ze_aload_n E dX8_init_0 0 rfl rfl ?_
  refine ze_objinit E zw_275 (by first | decide | simp [Value.category]) (by decide) dX8_init_1 ?_
  refine ze_aload_n E dX8_init_4 0 rfl rfl ?_
  refine ze_bipush E dX8_init_5 (v := 40) rfl ?_
  refine ze_newaJ E (by decide) (N := 40) rfl (by decide) zw_85 ⟨by decide, by decide⟩ (c2 := (1, 40)) rfl (n2 := 102) rfl dX8_init_7 ?_
  refine ze_putF E 100 (by decide) (by rw [zup_n (by decide)]; exact he) rfl zin8 4 (by decide) zw_280 tyX8 tyX8_ok nmX8 rfl hin rfl rfl rfl (Nat.le_of_ble_eq_true rfl) (fs2 := [.null, .null, .null, .null, .ref (C.X.1 + 101), .null, .null, .null, .null, .null, .int 0, .int 0, .long 0, .long 0, .int 0]) rfl rfl dX8_init_9 ?_
  refine ze_aload_n E dX8_init_12 0 rfl rfl ?_
  refine ze_bipush E dX8_init_13 (v := 40) rfl ?_
  refine ze_newaJ E (by decide) (N := 40) rfl (by decide) zw_85 ⟨by decide, by decide⟩ (c2 := (2, 80)) rfl (n2 := 103) rfl dX8_init_15 ?_
  refine ze_putF E 100 (by decide) rfl rfl zin8 5 (by decide) zw_281 tyX8 tyX8_ok nmX8 rfl hin rfl rfl rfl (Nat.le_of_ble_eq_true rfl) (fs2 := [.null, .null, .null, .null, .ref (C.X.1 + 101), .ref (C.X.1 + 102), .null, .null, .null, .null, .int 0, .int 0, .long 0, .long 0, .int 0]) rfl rfl dX8_init_17 ?_
  refine ze_aload_n E dX8_init_20 0 rfl rfl ?_
  refine ze_bipush E dX8_init_21 (v := 40) rfl ?_
  refine ze_newaJ E (by decide) (N := 40) rfl (by decide) zw_85 ⟨by decide, by decide⟩ (c2 := (3, 120)) rfl (n2 := 104) rfl dX8_init_23 ?_
  refine ze_putF E 100 (by decide) rfl rfl zin8 6 (by decide) zw_282 tyX8 tyX8_ok nmX8 rfl hin rfl rfl rfl (Nat.le_of_ble_eq_true rfl) (fs2 := [.null, .null, .null, .null, .ref (C.X.1 + 101), .ref (C.X.1 + 102), .ref (C.X.1 + 103), .null, .null, .null, .int 0, .int 0, .long 0, .long 0, .int 0]) rfl rfl dX8_init_25 ?_
  refine ze_aload_n E dX8_init_28 0 rfl rfl ?_
  refine ze_bipush E dX8_init_29 (v := 40) rfl ?_
  refine ze_newaJ E (by decide) (N := 40) rfl (by decide) zw_85 ⟨by decide, by decide⟩ (c2 := (4, 160)) rfl (n2 := 105) rfl dX8_init_31 ?_
  refine ze_putF E 100 (by decide) rfl rfl zin8 7 (by decide) zw_283 tyX8 tyX8_ok nmX8 rfl hin rfl rfl rfl (Nat.le_of_ble_eq_true rfl) (fs2 := [.null, .null, .null, .null, .ref (C.X.1 + 101), .ref (C.X.1 + 102), .ref (C.X.1 + 103), .ref (C.X.1 + 104), .null, .null, .int 0, .int 0, .long 0, .long 0, .int 0]) rfl rfl dX8_init_33 ?_
  refine ze_aload_n E dX8_init_36 0 rfl rfl ?_
  refine ze_bipush E dX8_init_37 (v := 40) rfl ?_
  refine ze_newaJ E (by decide) (N := 40) rfl (by decide) zw_85 ⟨by decide, by decide⟩ (c2 := (5, 200)) rfl (n2 := 106) rfl dX8_init_39 ?_
  refine ze_putF E 100 (by decide) rfl rfl zin8 8 (by decide) zw_284 tyX8 tyX8_ok nmX8 rfl hin rfl rfl rfl (Nat.le_of_ble_eq_true rfl) (fs2 := [.null, .null, .null, .null, .ref (C.X.1 + 101), .ref (C.X.1 + 102), .ref (C.X.1 + 103), .ref (C.X.1 + 104), .ref (C.X.1 + 105), .null, .int 0, .int 0, .long 0, .long 0, .int 0]) rfl rfl dX8_init_41 ?_
  refine ze_aload_n E dX8_init_44 0 rfl rfl ?_
  refine ze_sipush E dX8_init_45 (v := 760) rfl ?_
  refine ze_newaJ E (by decide) (N := 760) rfl (by decide) zw_85 ⟨by decide, by decide⟩ (c2 := (6, 960)) rfl (n2 := 107) rfl dX8_init_48 ?_
  refine ze_putF E 100 (by decide) rfl rfl zin8 9 (by decide) zw_285 tyX8 tyX8_ok nmX8 rfl hin rfl rfl rfl (Nat.le_of_ble_eq_true rfl) (fs2 := [.null, .null, .null, .null, .ref (C.X.1 + 101), .ref (C.X.1 + 102), .ref (C.X.1 + 103), .ref (C.X.1 + 104), .ref (C.X.1 + 105), .ref (C.X.1 + 106), .int 0, .int 0, .long 0, .long 0, .int 0]) rfl rfl dX8_init_50 ?_
  refine ze_aload_n E dX8_init_53 0 rfl rfl ?_
  refine ze_aload_n E dX8_init_54 1 rfl rfl ?_
  refine ze_putF E 100 (by decide) rfl rfl zin8 0 (by decide) zw_276 tyX8 tyX8_ok nmX8 rfl hin rfl rfl rfl (Nat.le_of_ble_eq_true rfl) (fs2 := [.ref (C.X.1 + 37), .null, .null, .null, .ref (C.X.1 + 101), .ref (C.X.1 + 102), .ref (C.X.1 + 103), .ref (C.X.1 + 104), .ref (C.X.1 + 105), .ref (C.X.1 + 106), .int 0, .int 0, .long 0, .long 0, .int 0]) rfl rfl dX8_init_55 ?_
  refine ze_aload_n E dX8_init_58 0 rfl rfl ?_
  refine ze_aload_n E dX8_init_59 2 rfl rfl ?_
  refine ze_putF E 100 (by decide) rfl rfl zin8 1 (by decide) zw_277 tyX8 tyX8_ok nmX8 rfl hin rfl rfl rfl (Nat.le_of_ble_eq_true rfl) (fs2 := [.ref (C.X.1 + 37), .ref (C.X.1 + 5), .null, .null, .ref (C.X.1 + 101), .ref (C.X.1 + 102), .ref (C.X.1 + 103), .ref (C.X.1 + 104), .ref (C.X.1 + 105), .ref (C.X.1 + 106), .int 0, .int 0, .long 0, .long 0, .int 0]) rfl rfl dX8_init_60 ?_
  refine ze_aload_n E dX8_init_63 0 rfl rfl ?_
  refine ze_aload_n E dX8_init_64 3 rfl rfl ?_
  refine ze_putF E 100 (by decide) rfl rfl zin8 2 (by decide) zw_278 tyX8 tyX8_ok nmX8 rfl hin rfl rfl rfl (Nat.le_of_ble_eq_true rfl) (fs2 := [.ref (C.X.1 + 37), .ref (C.X.1 + 5), .ref (C.X.1 + 48), .null, .ref (C.X.1 + 101), .ref (C.X.1 + 102), .ref (C.X.1 + 103), .ref (C.X.1 + 104), .ref (C.X.1 + 105), .ref (C.X.1 + 106), .int 0, .int 0, .long 0, .long 0, .int 0]) rfl rfl dX8_init_65 ?_
  refine ze_aload_n E dX8_init_68 0 rfl rfl ?_
  refine ze_aload E dX8_init_69 4 rfl ?_
  refine ze_putF E 100 (by decide) rfl rfl zin8 3 (by decide) zw_279 tyX8 tyX8_ok nmX8 rfl hin rfl rfl rfl (Nat.le_of_ble_eq_true rfl) (fs2 := [.ref (C.X.1 + 37), .ref (C.X.1 + 5), .ref (C.X.1 + 48), .ref (C.X.1 + 46), .ref (C.X.1 + 101), .ref (C.X.1 + 102), .ref (C.X.1 + 103), .ref (C.X.1 + 104), .ref (C.X.1 + 105), .ref (C.X.1 + 106), .int 0, .int 0, .long 0, .long 0, .int 0]) rfl rfl dX8_init_71 ?_
  refine ze_S (e2 := (va_up (va_up (va_up (va_up (va_up (va_up (va_up e 101 (.inl (C.X.2.2.1 1, 40, .inr (.inl (fun _ => 0))))) 102 (.inl (C.X.2.2.1 1, 40, .inr (.inl (fun _ => 0))))) 103 (.inl (C.X.2.2.1 1, 40, .inr (.inl (fun _ => 0))))) 104 (.inl (C.X.2.2.1 1, 40, .inr (.inl (fun _ => 0))))) 105 (.inl (C.X.2.2.1 1, 40, .inr (.inl (fun _ => 0))))) 106 (.inl (C.X.2.2.1 1, 760, .inr (.inl (fun _ => 0))))) 100 (.inr (8, [.ref (C.X.1 + 37), .ref (C.X.1 + 5), .ref (C.X.1 + 48), .ref (C.X.1 + 46), .ref (C.X.1 + 101), .ref (C.X.1 + 102), .ref (C.X.1 + 103), .ref (C.X.1 + 104), .ref (C.X.1 + 105), .ref (C.X.1 + 106), .int 0, .int 0, .long 0, .long 0, .int 0])))) (by
    funext i
    by_cases h101 : i = 101
    · subst h101
      rfl
    by_cases h102 : i = 102
    · subst h102
      rfl
    by_cases h103 : i = 103
    · subst h103
      rfl
    by_cases h104 : i = 104
    · subst h104
      rfl
    by_cases h105 : i = 105
    · subst h105
      rfl
    by_cases h106 : i = 106
    · subst h106
      rfl
    by_cases h100 : i = 100
    · subst h100
      rfl
    simp only [va_up, h101, h102, h103, h104, h105, h106, h100, if_false]) ?_
  exact ze_vret E hQ rfl ⟨by decide, by decide⟩ dX8_init_74
theorem ce_Roll107 {l : Launch} {X : zX} {e : Nat → va_E} (he : e 107 = .inr (8, [.null, .null, .null, .null, .null, .null, .null, .null, .null, .null, .int 0, .int 0, .long 0, .long 0, .int 0])) : zMve l yX8_init cX8_init 5 none ({ frames := 1, cells := 6, slots := 960, locals := 20 } : Room) X [.ref (X.1 + 107), .ref (X.1 + 37), .ref (X.1 + 5), .ref (X.1 + 48), .ref (X.1 + 46)] (108, e) (114, (va_up (va_up (va_up (va_up (va_up (va_up (va_up e 108 (.inl (X.2.2.1 1, 40, .inr (.inl (fun _ => 0))))) 109 (.inl (X.2.2.1 1, 40, .inr (.inl (fun _ => 0))))) 110 (.inl (X.2.2.1 1, 40, .inr (.inl (fun _ => 0))))) 111 (.inl (X.2.2.1 1, 40, .inr (.inl (fun _ => 0))))) 112 (.inl (X.2.2.1 1, 40, .inr (.inl (fun _ => 0))))) 113 (.inl (X.2.2.1 1, 760, .inr (.inl (fun _ => 0))))) 107 (.inr (8, [.ref (X.1 + 37), .ref (X.1 + 5), .ref (X.1 + 48), .ref (X.1 + 46), .ref (X.1 + 108), .ref (X.1 + 109), .ref (X.1 + 110), .ref (X.1 + 111), .ref (X.1 + 112), .ref (X.1 + 113), .int 0, .int 0, .long 0, .long 0, .int 0])))) := by
  refine zMve.ofI (by decide) (Nat.le_of_ble_eq_true rfl) (fun C E hl hX hQ hin => ?_)
  subst hl
  subst hX
  refine ze_aload_n E dX8_init_0 0 rfl rfl ?_
  refine ze_objinit E zw_275 (by first | decide | simp [Value.category]) (by decide) dX8_init_1 ?_
  refine ze_aload_n E dX8_init_4 0 rfl rfl ?_
  refine ze_bipush E dX8_init_5 (v := 40) rfl ?_
  refine ze_newaJ E (by decide) (N := 40) rfl (by decide) zw_85 ⟨by decide, by decide⟩ (c2 := (1, 40)) rfl (n2 := 109) rfl dX8_init_7 ?_
  refine ze_putF E 107 (by decide) (by rw [zup_n (by decide)]; exact he) rfl zin8 4 (by decide) zw_280 tyX8 tyX8_ok nmX8 rfl hin rfl rfl rfl (Nat.le_of_ble_eq_true rfl) (fs2 := [.null, .null, .null, .null, .ref (C.X.1 + 108), .null, .null, .null, .null, .null, .int 0, .int 0, .long 0, .long 0, .int 0]) rfl rfl dX8_init_9 ?_
  refine ze_aload_n E dX8_init_12 0 rfl rfl ?_
  refine ze_bipush E dX8_init_13 (v := 40) rfl ?_
  refine ze_newaJ E (by decide) (N := 40) rfl (by decide) zw_85 ⟨by decide, by decide⟩ (c2 := (2, 80)) rfl (n2 := 110) rfl dX8_init_15 ?_
  refine ze_putF E 107 (by decide) rfl rfl zin8 5 (by decide) zw_281 tyX8 tyX8_ok nmX8 rfl hin rfl rfl rfl (Nat.le_of_ble_eq_true rfl) (fs2 := [.null, .null, .null, .null, .ref (C.X.1 + 108), .ref (C.X.1 + 109), .null, .null, .null, .null, .int 0, .int 0, .long 0, .long 0, .int 0]) rfl rfl dX8_init_17 ?_
  refine ze_aload_n E dX8_init_20 0 rfl rfl ?_
  refine ze_bipush E dX8_init_21 (v := 40) rfl ?_
  refine ze_newaJ E (by decide) (N := 40) rfl (by decide) zw_85 ⟨by decide, by decide⟩ (c2 := (3, 120)) rfl (n2 := 111) rfl dX8_init_23 ?_
  refine ze_putF E 107 (by decide) rfl rfl zin8 6 (by decide) zw_282 tyX8 tyX8_ok nmX8 rfl hin rfl rfl rfl (Nat.le_of_ble_eq_true rfl) (fs2 := [.null, .null, .null, .null, .ref (C.X.1 + 108), .ref (C.X.1 + 109), .ref (C.X.1 + 110), .null, .null, .null, .int 0, .int 0, .long 0, .long 0, .int 0]) rfl rfl dX8_init_25 ?_
  refine ze_aload_n E dX8_init_28 0 rfl rfl ?_
  refine ze_bipush E dX8_init_29 (v := 40) rfl ?_
  refine ze_newaJ E (by decide) (N := 40) rfl (by decide) zw_85 ⟨by decide, by decide⟩ (c2 := (4, 160)) rfl (n2 := 112) rfl dX8_init_31 ?_
  refine ze_putF E 107 (by decide) rfl rfl zin8 7 (by decide) zw_283 tyX8 tyX8_ok nmX8 rfl hin rfl rfl rfl (Nat.le_of_ble_eq_true rfl) (fs2 := [.null, .null, .null, .null, .ref (C.X.1 + 108), .ref (C.X.1 + 109), .ref (C.X.1 + 110), .ref (C.X.1 + 111), .null, .null, .int 0, .int 0, .long 0, .long 0, .int 0]) rfl rfl dX8_init_33 ?_
  refine ze_aload_n E dX8_init_36 0 rfl rfl ?_
  refine ze_bipush E dX8_init_37 (v := 40) rfl ?_
  refine ze_newaJ E (by decide) (N := 40) rfl (by decide) zw_85 ⟨by decide, by decide⟩ (c2 := (5, 200)) rfl (n2 := 113) rfl dX8_init_39 ?_
  refine ze_putF E 107 (by decide) rfl rfl zin8 8 (by decide) zw_284 tyX8 tyX8_ok nmX8 rfl hin rfl rfl rfl (Nat.le_of_ble_eq_true rfl) (fs2 := [.null, .null, .null, .null, .ref (C.X.1 + 108), .ref (C.X.1 + 109), .ref (C.X.1 + 110), .ref (C.X.1 + 111), .ref (C.X.1 + 112), .null, .int 0, .int 0, .long 0, .long 0, .int 0]) rfl rfl dX8_init_41 ?_
  refine ze_aload_n E dX8_init_44 0 rfl rfl ?_
  refine ze_sipush E dX8_init_45 (v := 760) rfl ?_
  refine ze_newaJ E (by decide) (N := 760) rfl (by decide) zw_85 ⟨by decide, by decide⟩ (c2 := (6, 960)) rfl (n2 := 114) rfl dX8_init_48 ?_
  refine ze_putF E 107 (by decide) rfl rfl zin8 9 (by decide) zw_285 tyX8 tyX8_ok nmX8 rfl hin rfl rfl rfl (Nat.le_of_ble_eq_true rfl) (fs2 := [.null, .null, .null, .null, .ref (C.X.1 + 108), .ref (C.X.1 + 109), .ref (C.X.1 + 110), .ref (C.X.1 + 111), .ref (C.X.1 + 112), .ref (C.X.1 + 113), .int 0, .int 0, .long 0, .long 0, .int 0]) rfl rfl dX8_init_50 ?_
  refine ze_aload_n E dX8_init_53 0 rfl rfl ?_
  refine ze_aload_n E dX8_init_54 1 rfl rfl ?_
  refine ze_putF E 107 (by decide) rfl rfl zin8 0 (by decide) zw_276 tyX8 tyX8_ok nmX8 rfl hin rfl rfl rfl (Nat.le_of_ble_eq_true rfl) (fs2 := [.ref (C.X.1 + 37), .null, .null, .null, .ref (C.X.1 + 108), .ref (C.X.1 + 109), .ref (C.X.1 + 110), .ref (C.X.1 + 111), .ref (C.X.1 + 112), .ref (C.X.1 + 113), .int 0, .int 0, .long 0, .long 0, .int 0]) rfl rfl dX8_init_55 ?_
  refine ze_aload_n E dX8_init_58 0 rfl rfl ?_
  refine ze_aload_n E dX8_init_59 2 rfl rfl ?_
  refine ze_putF E 107 (by decide) rfl rfl zin8 1 (by decide) zw_277 tyX8 tyX8_ok nmX8 rfl hin rfl rfl rfl (Nat.le_of_ble_eq_true rfl) (fs2 := [.ref (C.X.1 + 37), .ref (C.X.1 + 5), .null, .null, .ref (C.X.1 + 108), .ref (C.X.1 + 109), .ref (C.X.1 + 110), .ref (C.X.1 + 111), .ref (C.X.1 + 112), .ref (C.X.1 + 113), .int 0, .int 0, .long 0, .long 0, .int 0]) rfl rfl dX8_init_60 ?_
  refine ze_aload_n E dX8_init_63 0 rfl rfl ?_
  refine ze_aload_n E dX8_init_64 3 rfl rfl ?_
  refine ze_putF E 107 (by decide) rfl rfl zin8 2 (by decide) zw_278 tyX8 tyX8_ok nmX8 rfl hin rfl rfl rfl (Nat.le_of_ble_eq_true rfl) (fs2 := [.ref (C.X.1 + 37), .ref (C.X.1 + 5), .ref (C.X.1 + 48), .null, .ref (C.X.1 + 108), .ref (C.X.1 + 109), .ref (C.X.1 + 110), .ref (C.X.1 + 111), .ref (C.X.1 + 112), .ref (C.X.1 + 113), .int 0, .int 0, .long 0, .long 0, .int 0]) rfl rfl dX8_init_65 ?_
  refine ze_aload_n E dX8_init_68 0 rfl rfl ?_
  refine ze_aload E dX8_init_69 4 rfl ?_
  refine ze_putF E 107 (by decide) rfl rfl zin8 3 (by decide) zw_279 tyX8 tyX8_ok nmX8 rfl hin rfl rfl rfl (Nat.le_of_ble_eq_true rfl) (fs2 := [.ref (C.X.1 + 37), .ref (C.X.1 + 5), .ref (C.X.1 + 48), .ref (C.X.1 + 46), .ref (C.X.1 + 108), .ref (C.X.1 + 109), .ref (C.X.1 + 110), .ref (C.X.1 + 111), .ref (C.X.1 + 112), .ref (C.X.1 + 113), .int 0, .int 0, .long 0, .long 0, .int 0]) rfl rfl dX8_init_71 ?_
  refine ze_S (e2 := (va_up (va_up (va_up (va_up (va_up (va_up (va_up e 108 (.inl (C.X.2.2.1 1, 40, .inr (.inl (fun _ => 0))))) 109 (.inl (C.X.2.2.1 1, 40, .inr (.inl (fun _ => 0))))) 110 (.inl (C.X.2.2.1 1, 40, .inr (.inl (fun _ => 0))))) 111 (.inl (C.X.2.2.1 1, 40, .inr (.inl (fun _ => 0))))) 112 (.inl (C.X.2.2.1 1, 40, .inr (.inl (fun _ => 0))))) 113 (.inl (C.X.2.2.1 1, 760, .inr (.inl (fun _ => 0))))) 107 (.inr (8, [.ref (C.X.1 + 37), .ref (C.X.1 + 5), .ref (C.X.1 + 48), .ref (C.X.1 + 46), .ref (C.X.1 + 108), .ref (C.X.1 + 109), .ref (C.X.1 + 110), .ref (C.X.1 + 111), .ref (C.X.1 + 112), .ref (C.X.1 + 113), .int 0, .int 0, .long 0, .long 0, .int 0])))) (by
    funext i
    by_cases h108 : i = 108
    · subst h108
      rfl
    by_cases h109 : i = 109
    · subst h109
      rfl
    by_cases h110 : i = 110
    · subst h110
      rfl
    by_cases h111 : i = 111
    · subst h111
      rfl
    by_cases h112 : i = 112
    · subst h112
      rfl
    by_cases h113 : i = 113
    · subst h113
      rfl
    by_cases h107 : i = 107
    · subst h107
      rfl
    simp only [va_up, h108, h109, h110, h111, h112, h113, h107, if_false]) ?_
  exact ze_vret E hQ rfl ⟨by decide, by decide⟩ dX8_init_74
theorem ce_Roll114 {l : Launch} {X : zX} {e : Nat → va_E} (he : e 114 = .inr (8, [.null, .null, .null, .null, .null, .null, .null, .null, .null, .null, .int 0, .int 0, .long 0, .long 0, .int 0])) : zMve l yX8_init cX8_init 5 none ({ frames := 1, cells := 6, slots := 960, locals := 20 } : Room) X [.ref (X.1 + 114), .ref (X.1 + 37), .ref (X.1 + 5), .ref (X.1 + 53), .ref (X.1 + 46)] (115, e) (121, (va_up (va_up (va_up (va_up (va_up (va_up (va_up e 115 (.inl (X.2.2.1 1, 40, .inr (.inl (fun _ => 0))))) 116 (.inl (X.2.2.1 1, 40, .inr (.inl (fun _ => 0))))) 117 (.inl (X.2.2.1 1, 40, .inr (.inl (fun _ => 0))))) 118 (.inl (X.2.2.1 1, 40, .inr (.inl (fun _ => 0))))) 119 (.inl (X.2.2.1 1, 40, .inr (.inl (fun _ => 0))))) 120 (.inl (X.2.2.1 1, 760, .inr (.inl (fun _ => 0))))) 114 (.inr (8, [.ref (X.1 + 37), .ref (X.1 + 5), .ref (X.1 + 53), .ref (X.1 + 46), .ref (X.1 + 115), .ref (X.1 + 116), .ref (X.1 + 117), .ref (X.1 + 118), .ref (X.1 + 119), .ref (X.1 + 120), .int 0, .int 0, .long 0, .long 0, .int 0])))) := by
  refine zMve.ofI (by decide) (Nat.le_of_ble_eq_true rfl) (fun C E hl hX hQ hin => ?_)
  subst hl
  subst hX
  refine ze_aload_n E dX8_init_0 0 rfl rfl ?_
  refine ze_objinit E zw_275 (by first | decide | simp [Value.category]) (by decide) dX8_init_1 ?_
  refine ze_aload_n E dX8_init_4 0 rfl rfl ?_
  refine ze_bipush E dX8_init_5 (v := 40) rfl ?_
  refine ze_newaJ E (by decide) (N := 40) rfl (by decide) zw_85 ⟨by decide, by decide⟩ (c2 := (1, 40)) rfl (n2 := 116) rfl dX8_init_7 ?_
  refine ze_putF E 114 (by decide) (by rw [zup_n (by decide)]; exact he) rfl zin8 4 (by decide) zw_280 tyX8 tyX8_ok nmX8 rfl hin rfl rfl rfl (Nat.le_of_ble_eq_true rfl) (fs2 := [.null, .null, .null, .null, .ref (C.X.1 + 115), .null, .null, .null, .null, .null, .int 0, .int 0, .long 0, .long 0, .int 0]) rfl rfl dX8_init_9 ?_
  refine ze_aload_n E dX8_init_12 0 rfl rfl ?_
  refine ze_bipush E dX8_init_13 (v := 40) rfl ?_
  refine ze_newaJ E (by decide) (N := 40) rfl (by decide) zw_85 ⟨by decide, by decide⟩ (c2 := (2, 80)) rfl (n2 := 117) rfl dX8_init_15 ?_
  refine ze_putF E 114 (by decide) rfl rfl zin8 5 (by decide) zw_281 tyX8 tyX8_ok nmX8 rfl hin rfl rfl rfl (Nat.le_of_ble_eq_true rfl) (fs2 := [.null, .null, .null, .null, .ref (C.X.1 + 115), .ref (C.X.1 + 116), .null, .null, .null, .null, .int 0, .int 0, .long 0, .long 0, .int 0]) rfl rfl dX8_init_17 ?_
  refine ze_aload_n E dX8_init_20 0 rfl rfl ?_
  refine ze_bipush E dX8_init_21 (v := 40) rfl ?_
  refine ze_newaJ E (by decide) (N := 40) rfl (by decide) zw_85 ⟨by decide, by decide⟩ (c2 := (3, 120)) rfl (n2 := 118) rfl dX8_init_23 ?_
  refine ze_putF E 114 (by decide) rfl rfl zin8 6 (by decide) zw_282 tyX8 tyX8_ok nmX8 rfl hin rfl rfl rfl (Nat.le_of_ble_eq_true rfl) (fs2 := [.null, .null, .null, .null, .ref (C.X.1 + 115), .ref (C.X.1 + 116), .ref (C.X.1 + 117), .null, .null, .null, .int 0, .int 0, .long 0, .long 0, .int 0]) rfl rfl dX8_init_25 ?_
  refine ze_aload_n E dX8_init_28 0 rfl rfl ?_
  refine ze_bipush E dX8_init_29 (v := 40) rfl ?_
  refine ze_newaJ E (by decide) (N := 40) rfl (by decide) zw_85 ⟨by decide, by decide⟩ (c2 := (4, 160)) rfl (n2 := 119) rfl dX8_init_31 ?_
  refine ze_putF E 114 (by decide) rfl rfl zin8 7 (by decide) zw_283 tyX8 tyX8_ok nmX8 rfl hin rfl rfl rfl (Nat.le_of_ble_eq_true rfl) (fs2 := [.null, .null, .null, .null, .ref (C.X.1 + 115), .ref (C.X.1 + 116), .ref (C.X.1 + 117), .ref (C.X.1 + 118), .null, .null, .int 0, .int 0, .long 0, .long 0, .int 0]) rfl rfl dX8_init_33 ?_
  refine ze_aload_n E dX8_init_36 0 rfl rfl ?_
  refine ze_bipush E dX8_init_37 (v := 40) rfl ?_
  refine ze_newaJ E (by decide) (N := 40) rfl (by decide) zw_85 ⟨by decide, by decide⟩ (c2 := (5, 200)) rfl (n2 := 120) rfl dX8_init_39 ?_
  refine ze_putF E 114 (by decide) rfl rfl zin8 8 (by decide) zw_284 tyX8 tyX8_ok nmX8 rfl hin rfl rfl rfl (Nat.le_of_ble_eq_true rfl) (fs2 := [.null, .null, .null, .null, .ref (C.X.1 + 115), .ref (C.X.1 + 116), .ref (C.X.1 + 117), .ref (C.X.1 + 118), .ref (C.X.1 + 119), .null, .int 0, .int 0, .long 0, .long 0, .int 0]) rfl rfl dX8_init_41 ?_
  refine ze_aload_n E dX8_init_44 0 rfl rfl ?_
  refine ze_sipush E dX8_init_45 (v := 760) rfl ?_
  refine ze_newaJ E (by decide) (N := 760) rfl (by decide) zw_85 ⟨by decide, by decide⟩ (c2 := (6, 960)) rfl (n2 := 121) rfl dX8_init_48 ?_
  refine ze_putF E 114 (by decide) rfl rfl zin8 9 (by decide) zw_285 tyX8 tyX8_ok nmX8 rfl hin rfl rfl rfl (Nat.le_of_ble_eq_true rfl) (fs2 := [.null, .null, .null, .null, .ref (C.X.1 + 115), .ref (C.X.1 + 116), .ref (C.X.1 + 117), .ref (C.X.1 + 118), .ref (C.X.1 + 119), .ref (C.X.1 + 120), .int 0, .int 0, .long 0, .long 0, .int 0]) rfl rfl dX8_init_50 ?_
  refine ze_aload_n E dX8_init_53 0 rfl rfl ?_
  refine ze_aload_n E dX8_init_54 1 rfl rfl ?_
  refine ze_putF E 114 (by decide) rfl rfl zin8 0 (by decide) zw_276 tyX8 tyX8_ok nmX8 rfl hin rfl rfl rfl (Nat.le_of_ble_eq_true rfl) (fs2 := [.ref (C.X.1 + 37), .null, .null, .null, .ref (C.X.1 + 115), .ref (C.X.1 + 116), .ref (C.X.1 + 117), .ref (C.X.1 + 118), .ref (C.X.1 + 119), .ref (C.X.1 + 120), .int 0, .int 0, .long 0, .long 0, .int 0]) rfl rfl dX8_init_55 ?_
  refine ze_aload_n E dX8_init_58 0 rfl rfl ?_
  refine ze_aload_n E dX8_init_59 2 rfl rfl ?_
  refine ze_putF E 114 (by decide) rfl rfl zin8 1 (by decide) zw_277 tyX8 tyX8_ok nmX8 rfl hin rfl rfl rfl (Nat.le_of_ble_eq_true rfl) (fs2 := [.ref (C.X.1 + 37), .ref (C.X.1 + 5), .null, .null, .ref (C.X.1 + 115), .ref (C.X.1 + 116), .ref (C.X.1 + 117), .ref (C.X.1 + 118), .ref (C.X.1 + 119), .ref (C.X.1 + 120), .int 0, .int 0, .long 0, .long 0, .int 0]) rfl rfl dX8_init_60 ?_
  refine ze_aload_n E dX8_init_63 0 rfl rfl ?_
  refine ze_aload_n E dX8_init_64 3 rfl rfl ?_
  refine ze_putF E 114 (by decide) rfl rfl zin8 2 (by decide) zw_278 tyX8 tyX8_ok nmX8 rfl hin rfl rfl rfl (Nat.le_of_ble_eq_true rfl) (fs2 := [.ref (C.X.1 + 37), .ref (C.X.1 + 5), .ref (C.X.1 + 53), .null, .ref (C.X.1 + 115), .ref (C.X.1 + 116), .ref (C.X.1 + 117), .ref (C.X.1 + 118), .ref (C.X.1 + 119), .ref (C.X.1 + 120), .int 0, .int 0, .long 0, .long 0, .int 0]) rfl rfl dX8_init_65 ?_
  refine ze_aload_n E dX8_init_68 0 rfl rfl ?_
  refine ze_aload E dX8_init_69 4 rfl ?_
  refine ze_putF E 114 (by decide) rfl rfl zin8 3 (by decide) zw_279 tyX8 tyX8_ok nmX8 rfl hin rfl rfl rfl (Nat.le_of_ble_eq_true rfl) (fs2 := [.ref (C.X.1 + 37), .ref (C.X.1 + 5), .ref (C.X.1 + 53), .ref (C.X.1 + 46), .ref (C.X.1 + 115), .ref (C.X.1 + 116), .ref (C.X.1 + 117), .ref (C.X.1 + 118), .ref (C.X.1 + 119), .ref (C.X.1 + 120), .int 0, .int 0, .long 0, .long 0, .int 0]) rfl rfl dX8_init_71 ?_
  refine ze_S (e2 := (va_up (va_up (va_up (va_up (va_up (va_up (va_up e 115 (.inl (C.X.2.2.1 1, 40, .inr (.inl (fun _ => 0))))) 116 (.inl (C.X.2.2.1 1, 40, .inr (.inl (fun _ => 0))))) 117 (.inl (C.X.2.2.1 1, 40, .inr (.inl (fun _ => 0))))) 118 (.inl (C.X.2.2.1 1, 40, .inr (.inl (fun _ => 0))))) 119 (.inl (C.X.2.2.1 1, 40, .inr (.inl (fun _ => 0))))) 120 (.inl (C.X.2.2.1 1, 760, .inr (.inl (fun _ => 0))))) 114 (.inr (8, [.ref (C.X.1 + 37), .ref (C.X.1 + 5), .ref (C.X.1 + 53), .ref (C.X.1 + 46), .ref (C.X.1 + 115), .ref (C.X.1 + 116), .ref (C.X.1 + 117), .ref (C.X.1 + 118), .ref (C.X.1 + 119), .ref (C.X.1 + 120), .int 0, .int 0, .long 0, .long 0, .int 0])))) (by
    funext i
    by_cases h115 : i = 115
    · subst h115
      rfl
    by_cases h116 : i = 116
    · subst h116
      rfl
    by_cases h117 : i = 117
    · subst h117
      rfl
    by_cases h118 : i = 118
    · subst h118
      rfl
    by_cases h119 : i = 119
    · subst h119
      rfl
    by_cases h120 : i = 120
    · subst h120
      rfl
    by_cases h114 : i = 114
    · subst h114
      rfl
    simp only [va_up, h115, h116, h117, h118, h119, h120, h114, if_false]) ?_
  exact ze_vret E hQ rfl ⟨by decide, by decide⟩ dX8_init_74
theorem ce_Roll121 {l : Launch} {X : zX} {e : Nat → va_E} (he : e 121 = .inr (8, [.null, .null, .null, .null, .null, .null, .null, .null, .null, .null, .int 0, .int 0, .long 0, .long 0, .int 0])) : zMve l yX8_init cX8_init 5 none ({ frames := 1, cells := 6, slots := 960, locals := 20 } : Room) X [.ref (X.1 + 121), .ref (X.1 + 37), .ref (X.1 + 5), .ref (X.1 + 53), .ref (X.1 + 46)] (122, e) (128, (va_up (va_up (va_up (va_up (va_up (va_up (va_up e 122 (.inl (X.2.2.1 1, 40, .inr (.inl (fun _ => 0))))) 123 (.inl (X.2.2.1 1, 40, .inr (.inl (fun _ => 0))))) 124 (.inl (X.2.2.1 1, 40, .inr (.inl (fun _ => 0))))) 125 (.inl (X.2.2.1 1, 40, .inr (.inl (fun _ => 0))))) 126 (.inl (X.2.2.1 1, 40, .inr (.inl (fun _ => 0))))) 127 (.inl (X.2.2.1 1, 760, .inr (.inl (fun _ => 0))))) 121 (.inr (8, [.ref (X.1 + 37), .ref (X.1 + 5), .ref (X.1 + 53), .ref (X.1 + 46), .ref (X.1 + 122), .ref (X.1 + 123), .ref (X.1 + 124), .ref (X.1 + 125), .ref (X.1 + 126), .ref (X.1 + 127), .int 0, .int 0, .long 0, .long 0, .int 0])))) := by
  refine zMve.ofI (by decide) (Nat.le_of_ble_eq_true rfl) (fun C E hl hX hQ hin => ?_)
  subst hl
  subst hX
  refine ze_aload_n E dX8_init_0 0 rfl rfl ?_
  refine ze_objinit E zw_275 (by first | decide | simp [Value.category]) (by decide) dX8_init_1 ?_
  refine ze_aload_n E dX8_init_4 0 rfl rfl ?_
  refine ze_bipush E dX8_init_5 (v := 40) rfl ?_
  refine ze_newaJ E (by decide) (N := 40) rfl (by decide) zw_85 ⟨by decide, by decide⟩ (c2 := (1, 40)) rfl (n2 := 123) rfl dX8_init_7 ?_
  refine ze_putF E 121 (by decide) (by rw [zup_n (by decide)]; exact he) rfl zin8 4 (by decide) zw_280 tyX8 tyX8_ok nmX8 rfl hin rfl rfl rfl (Nat.le_of_ble_eq_true rfl) (fs2 := [.null, .null, .null, .null, .ref (C.X.1 + 122), .null, .null, .null, .null, .null, .int 0, .int 0, .long 0, .long 0, .int 0]) rfl rfl dX8_init_9 ?_
  refine ze_aload_n E dX8_init_12 0 rfl rfl ?_
  refine ze_bipush E dX8_init_13 (v := 40) rfl ?_
  refine ze_newaJ E (by decide) (N := 40) rfl (by decide) zw_85 ⟨by decide, by decide⟩ (c2 := (2, 80)) rfl (n2 := 124) rfl dX8_init_15 ?_
  refine ze_putF E 121 (by decide) rfl rfl zin8 5 (by decide) zw_281 tyX8 tyX8_ok nmX8 rfl hin rfl rfl rfl (Nat.le_of_ble_eq_true rfl) (fs2 := [.null, .null, .null, .null, .ref (C.X.1 + 122), .ref (C.X.1 + 123), .null, .null, .null, .null, .int 0, .int 0, .long 0, .long 0, .int 0]) rfl rfl dX8_init_17 ?_
  refine ze_aload_n E dX8_init_20 0 rfl rfl ?_
  refine ze_bipush E dX8_init_21 (v := 40) rfl ?_
  refine ze_newaJ E (by decide) (N := 40) rfl (by decide) zw_85 ⟨by decide, by decide⟩ (c2 := (3, 120)) rfl (n2 := 125) rfl dX8_init_23 ?_
  refine ze_putF E 121 (by decide) rfl rfl zin8 6 (by decide) zw_282 tyX8 tyX8_ok nmX8 rfl hin rfl rfl rfl (Nat.le_of_ble_eq_true rfl) (fs2 := [.null, .null, .null, .null, .ref (C.X.1 + 122), .ref (C.X.1 + 123), .ref (C.X.1 + 124), .null, .null, .null, .int 0, .int 0, .long 0, .long 0, .int 0]) rfl rfl dX8_init_25 ?_
  refine ze_aload_n E dX8_init_28 0 rfl rfl ?_
  refine ze_bipush E dX8_init_29 (v := 40) rfl ?_
  refine ze_newaJ E (by decide) (N := 40) rfl (by decide) zw_85 ⟨by decide, by decide⟩ (c2 := (4, 160)) rfl (n2 := 126) rfl dX8_init_31 ?_
  refine ze_putF E 121 (by decide) rfl rfl zin8 7 (by decide) zw_283 tyX8 tyX8_ok nmX8 rfl hin rfl rfl rfl (Nat.le_of_ble_eq_true rfl) (fs2 := [.null, .null, .null, .null, .ref (C.X.1 + 122), .ref (C.X.1 + 123), .ref (C.X.1 + 124), .ref (C.X.1 + 125), .null, .null, .int 0, .int 0, .long 0, .long 0, .int 0]) rfl rfl dX8_init_33 ?_
  refine ze_aload_n E dX8_init_36 0 rfl rfl ?_
  refine ze_bipush E dX8_init_37 (v := 40) rfl ?_
  refine ze_newaJ E (by decide) (N := 40) rfl (by decide) zw_85 ⟨by decide, by decide⟩ (c2 := (5, 200)) rfl (n2 := 127) rfl dX8_init_39 ?_
  refine ze_putF E 121 (by decide) rfl rfl zin8 8 (by decide) zw_284 tyX8 tyX8_ok nmX8 rfl hin rfl rfl rfl (Nat.le_of_ble_eq_true rfl) (fs2 := [.null, .null, .null, .null, .ref (C.X.1 + 122), .ref (C.X.1 + 123), .ref (C.X.1 + 124), .ref (C.X.1 + 125), .ref (C.X.1 + 126), .null, .int 0, .int 0, .long 0, .long 0, .int 0]) rfl rfl dX8_init_41 ?_
  refine ze_aload_n E dX8_init_44 0 rfl rfl ?_
  refine ze_sipush E dX8_init_45 (v := 760) rfl ?_
  refine ze_newaJ E (by decide) (N := 760) rfl (by decide) zw_85 ⟨by decide, by decide⟩ (c2 := (6, 960)) rfl (n2 := 128) rfl dX8_init_48 ?_
  refine ze_putF E 121 (by decide) rfl rfl zin8 9 (by decide) zw_285 tyX8 tyX8_ok nmX8 rfl hin rfl rfl rfl (Nat.le_of_ble_eq_true rfl) (fs2 := [.null, .null, .null, .null, .ref (C.X.1 + 122), .ref (C.X.1 + 123), .ref (C.X.1 + 124), .ref (C.X.1 + 125), .ref (C.X.1 + 126), .ref (C.X.1 + 127), .int 0, .int 0, .long 0, .long 0, .int 0]) rfl rfl dX8_init_50 ?_
  refine ze_aload_n E dX8_init_53 0 rfl rfl ?_
  refine ze_aload_n E dX8_init_54 1 rfl rfl ?_
  refine ze_putF E 121 (by decide) rfl rfl zin8 0 (by decide) zw_276 tyX8 tyX8_ok nmX8 rfl hin rfl rfl rfl (Nat.le_of_ble_eq_true rfl) (fs2 := [.ref (C.X.1 + 37), .null, .null, .null, .ref (C.X.1 + 122), .ref (C.X.1 + 123), .ref (C.X.1 + 124), .ref (C.X.1 + 125), .ref (C.X.1 + 126), .ref (C.X.1 + 127), .int 0, .int 0, .long 0, .long 0, .int 0]) rfl rfl dX8_init_55 ?_
  refine ze_aload_n E dX8_init_58 0 rfl rfl ?_
  refine ze_aload_n E dX8_init_59 2 rfl rfl ?_
  refine ze_putF E 121 (by decide) rfl rfl zin8 1 (by decide) zw_277 tyX8 tyX8_ok nmX8 rfl hin rfl rfl rfl (Nat.le_of_ble_eq_true rfl) (fs2 := [.ref (C.X.1 + 37), .ref (C.X.1 + 5), .null, .null, .ref (C.X.1 + 122), .ref (C.X.1 + 123), .ref (C.X.1 + 124), .ref (C.X.1 + 125), .ref (C.X.1 + 126), .ref (C.X.1 + 127), .int 0, .int 0, .long 0, .long 0, .int 0]) rfl rfl dX8_init_60 ?_
  refine ze_aload_n E dX8_init_63 0 rfl rfl ?_
  refine ze_aload_n E dX8_init_64 3 rfl rfl ?_
  refine ze_putF E 121 (by decide) rfl rfl zin8 2 (by decide) zw_278 tyX8 tyX8_ok nmX8 rfl hin rfl rfl rfl (Nat.le_of_ble_eq_true rfl) (fs2 := [.ref (C.X.1 + 37), .ref (C.X.1 + 5), .ref (C.X.1 + 53), .null, .ref (C.X.1 + 122), .ref (C.X.1 + 123), .ref (C.X.1 + 124), .ref (C.X.1 + 125), .ref (C.X.1 + 126), .ref (C.X.1 + 127), .int 0, .int 0, .long 0, .long 0, .int 0]) rfl rfl dX8_init_65 ?_
  refine ze_aload_n E dX8_init_68 0 rfl rfl ?_
  refine ze_aload E dX8_init_69 4 rfl ?_
  refine ze_putF E 121 (by decide) rfl rfl zin8 3 (by decide) zw_279 tyX8 tyX8_ok nmX8 rfl hin rfl rfl rfl (Nat.le_of_ble_eq_true rfl) (fs2 := [.ref (C.X.1 + 37), .ref (C.X.1 + 5), .ref (C.X.1 + 53), .ref (C.X.1 + 46), .ref (C.X.1 + 122), .ref (C.X.1 + 123), .ref (C.X.1 + 124), .ref (C.X.1 + 125), .ref (C.X.1 + 126), .ref (C.X.1 + 127), .int 0, .int 0, .long 0, .long 0, .int 0]) rfl rfl dX8_init_71 ?_
  refine ze_S (e2 := (va_up (va_up (va_up (va_up (va_up (va_up (va_up e 122 (.inl (C.X.2.2.1 1, 40, .inr (.inl (fun _ => 0))))) 123 (.inl (C.X.2.2.1 1, 40, .inr (.inl (fun _ => 0))))) 124 (.inl (C.X.2.2.1 1, 40, .inr (.inl (fun _ => 0))))) 125 (.inl (C.X.2.2.1 1, 40, .inr (.inl (fun _ => 0))))) 126 (.inl (C.X.2.2.1 1, 40, .inr (.inl (fun _ => 0))))) 127 (.inl (C.X.2.2.1 1, 760, .inr (.inl (fun _ => 0))))) 121 (.inr (8, [.ref (C.X.1 + 37), .ref (C.X.1 + 5), .ref (C.X.1 + 53), .ref (C.X.1 + 46), .ref (C.X.1 + 122), .ref (C.X.1 + 123), .ref (C.X.1 + 124), .ref (C.X.1 + 125), .ref (C.X.1 + 126), .ref (C.X.1 + 127), .int 0, .int 0, .long 0, .long 0, .int 0])))) (by
    funext i
    by_cases h122 : i = 122
    · subst h122
      rfl
    by_cases h123 : i = 123
    · subst h123
      rfl
    by_cases h124 : i = 124
    · subst h124
      rfl
    by_cases h125 : i = 125
    · subst h125
      rfl
    by_cases h126 : i = 126
    · subst h126
      rfl
    by_cases h127 : i = 127
    · subst h127
      rfl
    by_cases h121 : i = 121
    · subst h121
      rfl
    simp only [va_up, h122, h123, h124, h125, h126, h127, h121, if_false]) ?_
  exact ze_vret E hQ rfl ⟨by decide, by decide⟩ dX8_init_74
