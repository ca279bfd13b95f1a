set_option maxHeartbeats 1000000
set_option maxRecDepth 100000
theorem dX3_init_0 : decode cX3_init 0 = .ok (.aload_n 0, 1) := by decide +kernel
theorem dX3_init_1 : decode cX3_init 1 = .ok (.invokespecial 3, 3) := by decide +kernel
theorem dX3_init_4 : decode cX3_init 4 = .ok (.aload_n 0, 1) := by decide +kernel
theorem dX3_init_5 : decode cX3_init 5 = .ok (.bipush 13, 2) := by decide +kernel
theorem dX3_init_7 : decode cX3_init 7 = .ok (.newarray .int, 2) := by decide +kernel
theorem dX3_init_9 : decode cX3_init 9 = .ok (.putfield 11, 3) := by decide +kernel
theorem dX3_init_12 : decode cX3_init 12 = .ok (.aload_n 0, 1) := by decide +kernel
theorem dX3_init_13 : decode cX3_init 13 = .ok (.bipush 13, 2) := by decide +kernel
theorem dX3_init_15 : decode cX3_init 15 = .ok (.newarray .int, 2) := by decide +kernel
theorem dX3_init_17 : decode cX3_init 17 = .ok (.putfield 15, 3) := by decide +kernel
theorem dX3_init_20 : decode cX3_init 20 = .ok (.aload_n 0, 1) := by decide +kernel
theorem dX3_init_21 : decode cX3_init 21 = .ok (.bipush 13, 2) := by decide +kernel
theorem dX3_init_23 : decode cX3_init 23 = .ok (.newarray .int, 2) := by decide +kernel
theorem dX3_init_25 : decode cX3_init 25 = .ok (.putfield 18, 3) := by decide +kernel
theorem dX3_init_28 : decode cX3_init 28 = .ok (.return_, 1) := by decide +kernel
theorem ce_Counters {l : Launch} {X : zX} {e : Nat → va_E} (he : e 1 = .inr (3, [.null, .null, .null])) : zMve l yX3_init cX3_init 1 none ({ frames := 1, cells := 3, slots := 39, locals := 20 } : Room) X [.ref (X.1 + 1)] (2, e) (5, (va_up (va_up (va_up (va_up e 2 (.inl (X.2.2.1 0, 13, .inl (fun _ => 0)))) 3 (.inl (X.2.2.1 0, 13, .inl (fun _ => 0)))) 4 (.inl (X.2.2.1 0, 13, .inl (fun _ => 0)))) 1 (.inr (3, [.ref (X.1 + 2), .ref (X.1 + 3), .ref (X.1 + 4)])))) := by
  refine zMve.ofI (by decide) (Nat.le_of_ble_eq_true rfl) (fun C E hl hX hQ hin => ?_)
  subst hl
  subst hX
  refine ze_aload_n E dX3_init_0 0 rfl rfl ?_
  refine ze_objinit E zw_34 (by first | decide | simp [Value.category]) (by decide) dX3_init_1 ?_
  refine ze_aload_n E dX3_init_4 0 rfl rfl ?_
  refine ze_bipush E dX3_init_5 (v := 13) rfl ?_
  refine ze_newaI E (by decide) (N := 13) rfl (by decide) zw_45 ⟨by decide, by decide⟩ (c2 := (1, 13)) rfl (n2 := 3) rfl dX3_init_7 ?_
  refine ze_putF E 1 (by decide) (by rw [zup_n (by decide)]; exact he) rfl zin3 0 (by decide) zw_35 tyX3 tyX3_ok nmX3 rfl hin rfl rfl rfl (Nat.le_of_ble_eq_true rfl) (fs2 := [.ref (C.X.1 + 2), .null, .null]) rfl rfl dX3_init_9 ?_
  refine ze_aload_n E dX3_init_12 0 rfl rfl ?_
  refine ze_bipush E dX3_init_13 (v := 13) rfl ?_
  refine ze_newaI E (by decide) (N := 13) rfl (by decide) zw_45 ⟨by decide, by decide⟩ (c2 := (2, 26)) rfl (n2 := 4) rfl dX3_init_15 ?_
  refine ze_putF E 1 (by decide) rfl rfl zin3 1 (by decide) zw_36 tyX3 tyX3_ok nmX3 rfl hin rfl rfl rfl (Nat.le_of_ble_eq_true rfl) (fs2 := [.ref (C.X.1 + 2), .ref (C.X.1 + 3), .null]) rfl rfl dX3_init_17 ?_
  refine ze_aload_n E dX3_init_20 0 rfl rfl ?_
  refine ze_bipush E dX3_init_21 (v := 13) rfl ?_
  refine ze_newaI E (by decide) (N := 13) rfl (by decide) zw_45 ⟨by decide, by decide⟩ (c2 := (3, 39)) rfl (n2 := 5) rfl dX3_init_23 ?_
  refine ze_putF E 1 (by decide) rfl rfl zin3 2 (by decide) zw_37 tyX3 tyX3_ok nmX3 rfl hin rfl rfl rfl (Nat.le_of_ble_eq_true rfl) (fs2 := [.ref (C.X.1 + 2), .ref (C.X.1 + 3), .ref (C.X.1 + 4)]) rfl rfl dX3_init_25 ?_
  refine ze_S (e2 := (va_up (va_up (va_up (va_up e 2 (.inl (C.X.2.2.1 0, 13, .inl (fun _ => 0)))) 3 (.inl (C.X.2.2.1 0, 13, .inl (fun _ => 0)))) 4 (.inl (C.X.2.2.1 0, 13, .inl (fun _ => 0)))) 1 (.inr (3, [.ref (C.X.1 + 2), .ref (C.X.1 + 3), .ref (C.X.1 + 4)])))) (by
    funext i
    by_cases h2 : i = 2
    · subst h2
      rfl
    by_cases h3 : i = 3
    · subst h3
      rfl
    by_cases h4 : i = 4
    · subst h4
      rfl
    by_cases h1 : i = 1
    · subst h1
      rfl
    simp only [va_up, h2, h3, h4, h1, if_false]) ?_
  exact ze_vret E hQ rfl ⟨by decide, by decide⟩ dX3_init_28
theorem dX7_init_0 : decode cX7_init 0 = .ok (.aload_n 0, 1) := by decide +kernel
theorem dX7_init_1 : decode cX7_init 1 = .ok (.invokespecial 3, 3) := by decide +kernel
theorem dX7_init_4 : decode cX7_init 4 = .ok (.aload_n 0, 1) := by decide +kernel
theorem dX7_init_5 : decode cX7_init 5 = .ok (.sipush 600, 3) := by decide +kernel
theorem dX7_init_8 : decode cX7_init 8 = .ok (.newarray .char, 2) := by decide +kernel
theorem dX7_init_10 : decode cX7_init 10 = .ok (.putfield 11, 3) := by decide +kernel
theorem dX7_init_13 : decode cX7_init 13 = .ok (.aload_n 0, 1) := by decide +kernel
theorem dX7_init_14 : decode cX7_init 14 = .ok (.sipush 600, 3) := by decide +kernel
theorem dX7_init_17 : decode cX7_init 17 = .ok (.newarray .int, 2) := by decide +kernel
theorem dX7_init_19 : decode cX7_init 19 = .ok (.putfield 15, 3) := by decide +kernel
theorem dX7_init_22 : decode cX7_init 22 = .ok (.aload_n 0, 1) := by decide +kernel
theorem dX7_init_23 : decode cX7_init 23 = .ok (.bipush 24, 2) := by decide +kernel
theorem dX7_init_25 : decode cX7_init 25 = .ok (.anewarray 19, 3) := by decide +kernel
theorem dX7_init_28 : decode cX7_init 28 = .ok (.putfield 21, 3) := by decide +kernel
theorem dX7_init_31 : decode cX7_init 31 = .ok (.aload_n 0, 1) := by decide +kernel
theorem dX7_init_32 : decode cX7_init 32 = .ok (.iconst (-1), 1) := by decide +kernel
theorem dX7_init_33 : decode cX7_init 33 = .ok (.putfield 25, 3) := by decide +kernel
theorem dX7_init_36 : decode cX7_init 36 = .ok (.return_, 1) := by decide +kernel
theorem ce_Reader {l : Launch} {X : zX} {e : Nat → va_E} (he : e 33 = .inr (7, [.null, .null, .null, .int 0, .int 0, .int 0, .int 0, .int 0, .int 0, .int 0, .int 0, .int 0])) : zMve l yX7_init cX7_init 1 none ({ frames := 1, cells := 3, slots := 1224, locals := 20 } : Room) X [.ref (X.1 + 33)] (34, e) (37, (va_up (va_up (va_up (va_up e 34 (.inl (X.2.2.1 2, 600, .inl (fun _ => 0)))) 35 (.inl (X.2.2.1 0, 600, .inl (fun _ => 0)))) 36 (.inl (X.2.2.1 5, 24, .inr (.inr (.inr (.inr (fun _ => none))))))) 33 (.inr (7, [.ref (X.1 + 34), .ref (X.1 + 35), .ref (X.1 + 36), .int 0, .int 0, .int 0, .int 0, .int 0, .int 0, .int 0, .int 0, .int (-1)])))) := by
  refine zMve.ofI (by decide) (Nat.le_of_ble_eq_true rfl) (fun C E hl hX hQ hin => ?_)
  subst hl
  subst hX
  refine ze_aload_n E dX7_init_0 0 rfl rfl ?_
  refine ze_objinit E zw_135 (by first | decide | simp [Value.category]) (by decide) dX7_init_1 ?_
  refine ze_aload_n E dX7_init_4 0 rfl rfl ?_
  refine ze_sipush E dX7_init_5 (v := 600) rfl ?_
  refine ze_newaC E (by decide) (N := 600) rfl (by decide) zw_175 ⟨by decide, by decide⟩ (c2 := (1, 600)) rfl (n2 := 35) rfl dX7_init_8 ?_
  refine ze_putF E 33 (by decide) (by rw [zup_n (by decide)]; exact he) rfl zin7 0 (by decide) zw_138 tyX7 tyX7_ok nmX7 rfl hin rfl rfl rfl (Nat.le_of_ble_eq_true rfl) (fs2 := [.ref (C.X.1 + 34), .null, .null, .int 0, .int 0, .int 0, .int 0, .int 0, .int 0, .int 0, .int 0, .int 0]) rfl rfl dX7_init_10 ?_
  refine ze_aload_n E dX7_init_13 0 rfl rfl ?_
  refine ze_sipush E dX7_init_14 (v := 600) rfl ?_
  refine ze_newaI E (by decide) (N := 600) rfl (by decide) zw_45 ⟨by decide, by decide⟩ (c2 := (2, 1200)) rfl (n2 := 36) rfl dX7_init_17 ?_
  refine ze_putF E 33 (by decide) rfl rfl zin7 1 (by decide) zw_139 tyX7 tyX7_ok nmX7 rfl hin rfl rfl rfl (Nat.le_of_ble_eq_true rfl) (fs2 := [.ref (C.X.1 + 34), .ref (C.X.1 + 35), .null, .int 0, .int 0, .int 0, .int 0, .int 0, .int 0, .int 0, .int 0, .int 0]) rfl rfl dX7_init_19 ?_
  refine ze_aload_n E dX7_init_22 0 rfl rfl ?_
  refine ze_bipush E dX7_init_23 (v := 24) rfl ?_
  refine ze_anewaS E zw_136 (by decide) (N := 24) rfl (by decide) ⟨by decide, by decide⟩ (c2 := (3, 1224)) rfl (n2 := 37) rfl dX7_init_25 ?_
  refine ze_putF E 33 (by decide) rfl rfl zin7 2 (by decide) zw_140 tyX7 tyX7_ok nmX7 rfl hin rfl rfl rfl (Nat.le_of_ble_eq_true rfl) (fs2 := [.ref (C.X.1 + 34), .ref (C.X.1 + 35), .ref (C.X.1 + 36), .int 0, .int 0, .int 0, .int 0, .int 0, .int 0, .int 0, .int 0, .int 0]) rfl rfl dX7_init_28 ?_
  refine ze_aload_n E dX7_init_31 0 rfl rfl ?_
  refine ze_iconst E dX7_init_32 (v := (-1)) rfl ?_
  refine ze_put E 33 (by decide) rfl rfl zin7 11 (by decide) zw_149 tyX7 tyX7_ok nmX7 rfl rfl rfl (Nat.le_of_ble_eq_true rfl) (fs2 := [.ref (C.X.1 + 34), .ref (C.X.1 + 35), .ref (C.X.1 + 36), .int 0, .int 0, .int 0, .int 0, .int 0, .int 0, .int 0, .int 0, .int (-1)]) rfl rfl dX7_init_33 ?_
  refine ze_S (e2 := (va_up (va_up (va_up (va_up e 34 (.inl (C.X.2.2.1 2, 600, .inl (fun _ => 0)))) 35 (.inl (C.X.2.2.1 0, 600, .inl (fun _ => 0)))) 36 (.inl (C.X.2.2.1 5, 24, .inr (.inr (.inr (.inr (fun _ => none))))))) 33 (.inr (7, [.ref (C.X.1 + 34), .ref (C.X.1 + 35), .ref (C.X.1 + 36), .int 0, .int 0, .int 0, .int 0, .int 0, .int 0, .int 0, .int 0, .int (-1)])))) (by
    funext i
    by_cases h34 : i = 34
    · subst h34
      rfl
    by_cases h35 : i = 35
    · subst h35
      rfl
    by_cases h36 : i = 36
    · subst h36
      rfl
    by_cases h33 : i = 33
    · subst h33
      rfl
    simp only [va_up, h34, h35, h36, h33, if_false]) ?_
  exact ze_vret E hQ rfl ⟨by decide, by decide⟩ dX7_init_36
theorem dX0_init_0 : decode cX0_init 0 = .ok (.aload_n 0, 1) := by decide +kernel
theorem dX0_init_1 : decode cX0_init 1 = .ok (.invokespecial 3, 3) := by decide +kernel
theorem dX0_init_4 : decode cX0_init 4 = .ok (.aload_n 0, 1) := by decide +kernel
theorem dX0_init_5 : decode cX0_init 5 = .ok (.sipush 201, 3) := by decide +kernel
theorem dX0_init_8 : decode cX0_init 8 = .ok (.newarray .int, 2) := by decide +kernel
theorem dX0_init_10 : decode cX0_init 10 = .ok (.putfield 9, 3) := by decide +kernel
theorem dX0_init_13 : decode cX0_init 13 = .ok (.aload_n 0, 1) := by decide +kernel
theorem dX0_init_14 : decode cX0_init 14 = .ok (.sipush 201, 3) := by decide +kernel
theorem dX0_init_17 : decode cX0_init 17 = .ok (.newarray .int, 2) := by decide +kernel
theorem dX0_init_19 : decode cX0_init 19 = .ok (.putfield 15, 3) := by decide +kernel
theorem dX0_init_22 : decode cX0_init 22 = .ok (.aload_n 0, 1) := by decide +kernel
theorem dX0_init_23 : decode cX0_init 23 = .ok (.sipush 201, 3) := by decide +kernel
theorem dX0_init_26 : decode cX0_init 26 = .ok (.newarray .int, 2) := by decide +kernel
theorem dX0_init_28 : decode cX0_init 28 = .ok (.putfield 18, 3) := by decide +kernel
theorem dX0_init_31 : decode cX0_init 31 = .ok (.aload_n 0, 1) := by decide +kernel
theorem dX0_init_32 : decode cX0_init 32 = .ok (.sipush 201, 3) := by decide +kernel
theorem dX0_init_35 : decode cX0_init 35 = .ok (.newarray .int, 2) := by decide +kernel
theorem dX0_init_37 : decode cX0_init 37 = .ok (.putfield 21, 3) := by decide +kernel
theorem dX0_init_40 : decode cX0_init 40 = .ok (.aload_n 0, 1) := by decide +kernel
theorem dX0_init_41 : decode cX0_init 41 = .ok (.sipush 201, 3) := by decide +kernel
theorem dX0_init_44 : decode cX0_init 44 = .ok (.newarray .int, 2) := by decide +kernel
theorem dX0_init_46 : decode cX0_init 46 = .ok (.putfield 24, 3) := by decide +kernel
theorem dX0_init_49 : decode cX0_init 49 = .ok (.aload_n 0, 1) := by decide +kernel
theorem dX0_init_50 : decode cX0_init 50 = .ok (.sipush 201, 3) := by decide +kernel
theorem dX0_init_53 : decode cX0_init 53 = .ok (.anewarray 27, 3) := by decide +kernel
theorem dX0_init_56 : decode cX0_init 56 = .ok (.putfield 29, 3) := by decide +kernel
theorem dX0_init_59 : decode cX0_init 59 = .ok (.return_, 1) := by decide +kernel
theorem ce_Acts {l : Launch} {X : zX} {e : Nat → va_E} (he : e 37 = .inr (0, [.null, .null, .null, .null, .null, .null, .int 0, .int 0])) : zMve l yX0_init cX0_init 1 none ({ frames := 1, cells := 6, slots := 1206, locals := 20 } : Room) X [.ref (X.1 + 37)] (38, e) (44, (va_up (va_up (va_up (va_up (va_up (va_up (va_up e 38 (.inl (X.2.2.1 0, 201, .inl (fun _ => 0)))) 39 (.inl (X.2.2.1 0, 201, .inl (fun _ => 0)))) 40 (.inl (X.2.2.1 0, 201, .inl (fun _ => 0)))) 41 (.inl (X.2.2.1 0, 201, .inl (fun _ => 0)))) 42 (.inl (X.2.2.1 0, 201, .inl (fun _ => 0)))) 43 (.inl (X.2.2.1 6, 201, .inr (.inr (.inr (.inr (fun _ => none))))))) 37 (.inr (0, [.ref (X.1 + 38), .ref (X.1 + 39), .ref (X.1 + 40), .ref (X.1 + 41), .ref (X.1 + 42), .ref (X.1 + 43), .int 0, .int 0])))) := by
  refine zMve.ofI (by decide) (Nat.le_of_ble_eq_true rfl) (fun C E hl hX hQ hin => ?_)
  subst hl
  subst hX
  refine ze_aload_n E dX0_init_0 0 rfl rfl ?_
  refine ze_objinit E zw_181 (by first | decide | simp [Value.category]) (by decide) dX0_init_1 ?_
  refine ze_aload_n E dX0_init_4 0 rfl rfl ?_
  refine ze_sipush E dX0_init_5 (v := 201) rfl ?_
  refine ze_newaI E (by decide) (N := 201) rfl (by decide) zw_45 ⟨by decide, by decide⟩ (c2 := (1, 201)) rfl (n2 := 39) rfl dX0_init_8 ?_
  refine ze_putF E 37 (by decide) (by rw [zup_n (by decide)]; exact he) rfl zin0 0 (by decide) zw_184 tyX0 tyX0_ok nmX0 rfl hin rfl rfl rfl (Nat.le_of_ble_eq_true rfl) (fs2 := [.ref (C.X.1 + 38), .null, .null, .null, .null, .null, .int 0, .int 0]) rfl rfl dX0_init_10 ?_
  refine ze_aload_n E dX0_init_13 0 rfl rfl ?_
  refine ze_sipush E dX0_init_14 (v := 201) rfl ?_
  refine ze_newaI E (by decide) (N := 201) rfl (by decide) zw_45 ⟨by decide, by decide⟩ (c2 := (2, 402)) rfl (n2 := 40) rfl dX0_init_17 ?_
  refine ze_putF E 37 (by decide) rfl rfl zin0 1 (by decide) zw_188 tyX0 tyX0_ok nmX0 rfl hin rfl rfl rfl (Nat.le_of_ble_eq_true rfl) (fs2 := [.ref (C.X.1 + 38), .ref (C.X.1 + 39), .null, .null, .null, .null, .int 0, .int 0]) rfl rfl dX0_init_19 ?_
  refine ze_aload_n E dX0_init_22 0 rfl rfl ?_
  refine ze_sipush E dX0_init_23 (v := 201) rfl ?_
  refine ze_newaI E (by decide) (N := 201) rfl (by decide) zw_45 ⟨by decide, by decide⟩ (c2 := (3, 603)) rfl (n2 := 41) rfl dX0_init_26 ?_
  refine ze_putF E 37 (by decide) rfl rfl zin0 2 (by decide) zw_191 tyX0 tyX0_ok nmX0 rfl hin rfl rfl rfl (Nat.le_of_ble_eq_true rfl) (fs2 := [.ref (C.X.1 + 38), .ref (C.X.1 + 39), .ref (C.X.1 + 40), .null, .null, .null, .int 0, .int 0]) rfl rfl dX0_init_28 ?_
  refine ze_aload_n E dX0_init_31 0 rfl rfl ?_
  refine ze_sipush E dX0_init_32 (v := 201) rfl ?_
  refine ze_newaI E (by decide) (N := 201) rfl (by decide) zw_45 ⟨by decide, by decide⟩ (c2 := (4, 804)) rfl (n2 := 42) rfl dX0_init_35 ?_
  refine ze_putF E 37 (by decide) rfl rfl zin0 3 (by decide) zw_194 tyX0 tyX0_ok nmX0 rfl hin rfl rfl rfl (Nat.le_of_ble_eq_true rfl) (fs2 := [.ref (C.X.1 + 38), .ref (C.X.1 + 39), .ref (C.X.1 + 40), .ref (C.X.1 + 41), .null, .null, .int 0, .int 0]) rfl rfl dX0_init_37 ?_
  refine ze_aload_n E dX0_init_40 0 rfl rfl ?_
  refine ze_sipush E dX0_init_41 (v := 201) rfl ?_
  refine ze_newaI E (by decide) (N := 201) rfl (by decide) zw_45 ⟨by decide, by decide⟩ (c2 := (5, 1005)) rfl (n2 := 43) rfl dX0_init_44 ?_
  refine ze_putF E 37 (by decide) rfl rfl zin0 4 (by decide) zw_197 tyX0 tyX0_ok nmX0 rfl hin rfl rfl rfl (Nat.le_of_ble_eq_true rfl) (fs2 := [.ref (C.X.1 + 38), .ref (C.X.1 + 39), .ref (C.X.1 + 40), .ref (C.X.1 + 41), .ref (C.X.1 + 42), .null, .int 0, .int 0]) rfl rfl dX0_init_46 ?_
  refine ze_aload_n E dX0_init_49 0 rfl rfl ?_
  refine ze_sipush E dX0_init_50 (v := 201) rfl ?_
  refine ze_anewaW E zw_182 (by decide) (N := 201) rfl (by decide) ⟨by decide, by decide⟩ (c2 := (6, 1206)) rfl (n2 := 44) rfl dX0_init_53 ?_
  refine ze_putF E 37 (by decide) rfl rfl zin0 5 (by decide) zw_198 tyX0 tyX0_ok nmX0 rfl hin rfl rfl rfl (Nat.le_of_ble_eq_true rfl) (fs2 := [.ref (C.X.1 + 38), .ref (C.X.1 + 39), .ref (C.X.1 + 40), .ref (C.X.1 + 41), .ref (C.X.1 + 42), .ref (C.X.1 + 43), .int 0, .int 0]) rfl rfl dX0_init_56 ?_
  refine ze_S (e2 := (va_up (va_up (va_up (va_up (va_up (va_up (va_up e 38 (.inl (C.X.2.2.1 0, 201, .inl (fun _ => 0)))) 39 (.inl (C.X.2.2.1 0, 201, .inl (fun _ => 0)))) 40 (.inl (C.X.2.2.1 0, 201, .inl (fun _ => 0)))) 41 (.inl (C.X.2.2.1 0, 201, .inl (fun _ => 0)))) 42 (.inl (C.X.2.2.1 0, 201, .inl (fun _ => 0)))) 43 (.inl (C.X.2.2.1 6, 201, .inr (.inr (.inr (.inr (fun _ => none))))))) 37 (.inr (0, [.ref (C.X.1 + 38), .ref (C.X.1 + 39), .ref (C.X.1 + 40), .ref (C.X.1 + 41), .ref (C.X.1 + 42), .ref (C.X.1 + 43), .int 0, .int 0])))) (by
    funext i
    by_cases h38 : i = 38
    · subst h38
      rfl
    by_cases h39 : i = 39
    · subst h39
      rfl
    by_cases h40 : i = 40
    · subst h40
      rfl
    by_cases h41 : i = 41
    · subst h41
      rfl
    by_cases h42 : i = 42
    · subst h42
      rfl
    by_cases h43 : i = 43
    · subst h43
      rfl
    by_cases h37 : i = 37
    · subst h37
      rfl
    simp only [va_up, h38, h39, h40, h41, h42, h43, h37, if_false]) ?_
  exact ze_vret E hQ rfl ⟨by decide, by decide⟩ dX0_init_59
theorem dX4_init_0 : decode cX4_init 0 = .ok (.aload_n 0, 1) := by decide +kernel
theorem dX4_init_1 : decode cX4_init 1 = .ok (.invokespecial 1, 3) := by decide +kernel
theorem dX4_init_4 : decode cX4_init 4 = .ok (.aload_n 0, 1) := by decide +kernel
theorem dX4_init_5 : decode cX4_init 5 = .ok (.bipush 64, 2) := by decide +kernel
theorem dX4_init_7 : decode cX4_init 7 = .ok (.newarray .long, 2) := by decide +kernel
theorem dX4_init_9 : decode cX4_init 9 = .ok (.putfield 9, 3) := by decide +kernel
theorem dX4_init_12 : decode cX4_init 12 = .ok (.return_, 1) := by decide +kernel
theorem ce_Judge {l : Launch} {X : zX} {e : Nat → va_E} (he : e 46 = .inr (4, [.null, .int 0, .int 0, .long 0, .long 0])) : zMve l yX4_init cX4_init 1 none ({ frames := 1, cells := 1, slots := 64, locals := 20 } : Room) X [.ref (X.1 + 46)] (47, e) (48, (va_up (va_up e 47 (.inl (X.2.2.1 1, 64, .inr (.inl (fun _ => 0))))) 46 (.inr (4, [.ref (X.1 + 47), .int 0, .int 0, .long 0, .long 0])))) := by
  refine zMve.ofI (by decide) (Nat.le_of_ble_eq_true rfl) (fun C E hl hX hQ hin => ?_)
  subst hl
  subst hX
  refine ze_aload_n E dX4_init_0 0 rfl rfl ?_
  refine ze_objinit E zw_232 (by first | decide | simp [Value.category]) (by decide) dX4_init_1 ?_
  refine ze_aload_n E dX4_init_4 0 rfl rfl ?_
  refine ze_bipush E dX4_init_5 (v := 64) rfl ?_
  refine ze_newaJ E (by decide) (N := 64) rfl (by decide) zw_85 ⟨by decide, by decide⟩ (c2 := (1, 64)) rfl (n2 := 48) rfl dX4_init_7 ?_
  refine ze_putF E 46 (by decide) (by rw [zup_n (by decide)]; exact he) rfl zin4 0 (by decide) zw_233 tyX4 tyX4_ok nmX4 rfl hin rfl rfl rfl (Nat.le_of_ble_eq_true rfl) (fs2 := [.ref (C.X.1 + 47), .int 0, .int 0, .long 0, .long 0]) rfl rfl dX4_init_9 ?_
  refine ze_S (e2 := (va_up (va_up e 47 (.inl (C.X.2.2.1 1, 64, .inr (.inl (fun _ => 0))))) 46 (.inr (4, [.ref (C.X.1 + 47), .int 0, .int 0, .long 0, .long 0])))) (by
    funext i
    by_cases h47 : i = 47
    · subst h47
      rfl
    by_cases h46 : i = 46
    · subst h46
      rfl
    simp only [va_up, h47, h46, if_false]) ?_
  exact ze_vret E hQ rfl ⟨by decide, by decide⟩ dX4_init_12
