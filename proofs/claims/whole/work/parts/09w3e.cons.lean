set_option maxHeartbeats 1000000
set_option maxRecDepth 100000
theorem dX1_init_0 : decode cX1_init 0 = .ok (.aload_n 0, 1) := by decide +kernel
theorem dX1_init_1 : decode cX1_init 1 = .ok (.invokespecial 3, 3) := by decide +kernel
theorem dX1_init_4 : decode cX1_init 4 = .ok (.aload_n 0, 1) := by decide +kernel
theorem dX1_init_5 : decode cX1_init 5 = .ok (.bipush 8, 2) := by decide +kernel
theorem dX1_init_7 : decode cX1_init 7 = .ok (.anewarray 9, 3) := by decide +kernel
theorem dX1_init_10 : decode cX1_init 10 = .ok (.putfield 11, 3) := by decide +kernel
theorem dX1_init_13 : decode cX1_init 13 = .ok (.aload_n 0, 1) := by decide +kernel
theorem dX1_init_14 : decode cX1_init 14 = .ok (.iconst (-1), 1) := by decide +kernel
theorem dX1_init_15 : decode cX1_init 15 = .ok (.putfield 17, 3) := by decide +kernel
theorem dX1_init_18 : decode cX1_init 18 = .ok (.aload_n 0, 1) := by decide +kernel
theorem dX1_init_19 : decode cX1_init 19 = .ok (.iconst (-1), 1) := by decide +kernel
theorem dX1_init_20 : decode cX1_init 20 = .ok (.putfield 21, 3) := by decide +kernel
theorem dX1_init_23 : decode cX1_init 23 = .ok (.aload_n 0, 1) := by decide +kernel
theorem dX1_init_24 : decode cX1_init 24 = .ok (.iconst (-1), 1) := by decide +kernel
theorem dX1_init_25 : decode cX1_init 25 = .ok (.putfield 24, 3) := by decide +kernel
theorem dX1_init_28 : decode cX1_init 28 = .ok (.new 27, 3) := by decide +kernel
theorem dX1_init_31 : decode cX1_init 31 = .ok (.dup, 1) := by decide +kernel
theorem dX1_init_32 : decode cX1_init 32 = .ok (.invokespecial 29, 3) := by decide +kernel
theorem dX1_init_35 : decode cX1_init 35 = .ok (.astore_n 3, 1) := by decide +kernel
theorem dX1_init_36 : decode cX1_init 36 = .ok (.aload_n 0, 1) := by decide +kernel
theorem dX1_init_37 : decode cX1_init 37 = .ok (.aload_n 1, 1) := by decide +kernel
theorem dX1_init_38 : decode cX1_init 38 = .ok (.putfield 30, 3) := by decide +kernel
theorem dX1_init_41 : decode cX1_init 41 = .ok (.aload_n 0, 1) := by decide +kernel
theorem dX1_init_42 : decode cX1_init 42 = .ok (.aload_n 2, 1) := by decide +kernel
theorem dX1_init_43 : decode cX1_init 43 = .ok (.putfield 34, 3) := by decide +kernel
theorem dX1_init_46 : decode cX1_init 46 = .ok (.aload_n 0, 1) := by decide +kernel
theorem dX1_init_47 : decode cX1_init 47 = .ok (.new 38, 3) := by decide +kernel
theorem dX1_init_50 : decode cX1_init 50 = .ok (.dup, 1) := by decide +kernel
theorem dX1_init_51 : decode cX1_init 51 = .ok (.aload_n 1, 1) := by decide +kernel
theorem dX1_init_52 : decode cX1_init 52 = .ok (.invokespecial 40, 3) := by decide +kernel
theorem dX1_init_55 : decode cX1_init 55 = .ok (.putfield 43, 3) := by decide +kernel
theorem dX1_init_58 : decode cX1_init 58 = .ok (.aload_n 0, 1) := by decide +kernel
theorem dX1_init_59 : decode cX1_init 59 = .ok (.new 38, 3) := by decide +kernel
theorem dX1_init_62 : decode cX1_init 62 = .ok (.dup, 1) := by decide +kernel
theorem dX1_init_63 : decode cX1_init 63 = .ok (.aload_n 1, 1) := by decide +kernel
theorem dX1_init_64 : decode cX1_init 64 = .ok (.invokespecial 40, 3) := by decide +kernel
theorem dX1_init_67 : decode cX1_init 67 = .ok (.putfield 47, 3) := by decide +kernel
theorem dX1_init_70 : decode cX1_init 70 = .ok (.iconst 0, 1) := by decide +kernel
theorem dX1_init_71 : decode cX1_init 71 = .ok (.istore 4, 2) := by decide +kernel
theorem dX1_init_73 : decode cX1_init 73 = .ok (.iload 4, 2) := by decide +kernel
theorem dX1_init_75 : decode cX1_init 75 = .ok (.bipush 8, 2) := by decide +kernel
theorem dX1_init_77 : decode cX1_init 77 = .ok (.if_icmp .ge 30, 3) := by decide +kernel
theorem dX1_init_80 : decode cX1_init 80 = .ok (.aload_n 0, 1) := by decide +kernel
theorem dX1_init_81 : decode cX1_init 81 = .ok (.getfield 11, 3) := by decide +kernel
theorem dX1_init_84 : decode cX1_init 84 = .ok (.iload 4, 2) := by decide +kernel
theorem dX1_init_86 : decode cX1_init 86 = .ok (.new 9, 3) := by decide +kernel
theorem dX1_init_89 : decode cX1_init 89 = .ok (.dup, 1) := by decide +kernel
theorem dX1_init_90 : decode cX1_init 90 = .ok (.aload_n 1, 1) := by decide +kernel
theorem dX1_init_91 : decode cX1_init 91 = .ok (.aload_n 2, 1) := by decide +kernel
theorem dX1_init_92 : decode cX1_init 92 = .ok (.aload_n 0, 1) := by decide +kernel
theorem dX1_init_93 : decode cX1_init 93 = .ok (.getfield 43, 3) := by decide +kernel
theorem dX1_init_96 : decode cX1_init 96 = .ok (.aload_n 3, 1) := by decide +kernel
theorem dX1_init_97 : decode cX1_init 97 = .ok (.invokespecial 50, 3) := by decide +kernel
theorem dX1_init_100 : decode cX1_init 100 = .ok (.aastore, 1) := by decide +kernel
theorem dX1_init_101 : decode cX1_init 101 = .ok (.iinc 4 1, 3) := by decide +kernel
theorem dX1_init_104 : decode cX1_init 104 = .ok (.goto (-31), 3) := by decide +kernel
theorem dX1_init_107 : decode cX1_init 107 = .ok (.aload_n 0, 1) := by decide +kernel
theorem dX1_init_108 : decode cX1_init 108 = .ok (.new 9, 3) := by decide +kernel
theorem dX1_init_111 : decode cX1_init 111 = .ok (.dup, 1) := by decide +kernel
theorem dX1_init_112 : decode cX1_init 112 = .ok (.aload_n 1, 1) := by decide +kernel
theorem dX1_init_113 : decode cX1_init 113 = .ok (.aload_n 2, 1) := by decide +kernel
theorem dX1_init_114 : decode cX1_init 114 = .ok (.aload_n 0, 1) := by decide +kernel
theorem dX1_init_115 : decode cX1_init 115 = .ok (.getfield 47, 3) := by decide +kernel
theorem dX1_init_118 : decode cX1_init 118 = .ok (.aload_n 3, 1) := by decide +kernel
theorem dX1_init_119 : decode cX1_init 119 = .ok (.invokespecial 50, 3) := by decide +kernel
theorem dX1_init_122 : decode cX1_init 122 = .ok (.putfield 53, 3) := by decide +kernel
theorem dX1_init_125 : decode cX1_init 125 = .ok (.aload_n 0, 1) := by decide +kernel
theorem dX1_init_126 : decode cX1_init 126 = .ok (.new 9, 3) := by decide +kernel
theorem dX1_init_129 : decode cX1_init 129 = .ok (.dup, 1) := by decide +kernel
theorem dX1_init_130 : decode cX1_init 130 = .ok (.aload_n 1, 1) := by decide +kernel
theorem dX1_init_131 : decode cX1_init 131 = .ok (.aload_n 2, 1) := by decide +kernel
theorem dX1_init_132 : decode cX1_init 132 = .ok (.aload_n 0, 1) := by decide +kernel
theorem dX1_init_133 : decode cX1_init 133 = .ok (.getfield 47, 3) := by decide +kernel
theorem dX1_init_136 : decode cX1_init 136 = .ok (.aload_n 3, 1) := by decide +kernel
theorem dX1_init_137 : decode cX1_init 137 = .ok (.invokespecial 50, 3) := by decide +kernel
theorem dX1_init_140 : decode cX1_init 140 = .ok (.putfield 57, 3) := by decide +kernel
theorem dX1_init_143 : decode cX1_init 143 = .ok (.return_, 1) := by decide +kernel
theorem zy_X1_init : zYi yX1_init cX1_init 5 2 := ⟨zw_222, rfl, zw_8, zw_223, by decide, by decide, by decide⟩
theorem ce_Audit {l : Launch} {X : zX} {e : Nat → va_E} (he : e 44 = .inr (1, [.null, .null, .null, .null, .null, .null, .null, .int 0, .int 0, .int 0])) : zMve l yX1_init cX1_init 5 none ({ frames := 2, cells := 83, slots := 10479, locals := 44 } : Room) X [.ref (X.1 + 44), .ref (X.1 + 37), .ref (X.1 + 5)] (45, e) (128, (va_up (va_up (va_up (va_up (va_up (va_up (va_up (va_up (va_up (va_up (va_up (va_up (va_up (va_up (va_up (va_up (va_up (va_up (va_up (va_up (va_up (va_up (va_up (va_up (va_up (va_up (va_up (va_up (va_up (va_up (va_up (va_up (va_up (va_up (va_up (va_up (va_up (va_up (va_up (va_up (va_up (va_up (va_up (va_up (va_up (va_up (va_up (va_up (va_up (va_up (va_up (va_up (va_up (va_up (va_up (va_up (va_up (va_up (va_up (va_up (va_up (va_up (va_up (va_up (va_up (va_up (va_up (va_up (va_up (va_up (va_up (va_up (va_up (va_up (va_up (va_up (va_up (va_up (va_up (va_up (va_up (va_up (va_up (va_up e 45 (.inl (X.2.2.1 4, 8, .inr (.inr (.inr (.inr (va_up (va_up (va_up (va_up (va_up (va_up (va_up (va_up (fun _ => none) 0 (some (X.1 + 58))) 1 (some (X.1 + 65))) 2 (some (X.1 + 72))) 3 (some (X.1 + 79))) 4 (some (X.1 + 86))) 5 (some (X.1 + 93))) 6 (some (X.1 + 100))) 7 (some (X.1 + 107))))))))) 46 (.inr (4, [.ref (X.1 + 47), .int 0, .int 0, .long 0, .long 0]))) 47 (.inl (X.2.2.1 1, 64, .inr (.inl (fun _ => 0))))) 48 (.inr (5, [.ref (X.1 + 37), .ref (X.1 + 49), .ref (X.1 + 50), .ref (X.1 + 51), .ref (X.1 + 52)]))) 49 (.inl (X.2.2.1 0, 40, .inl (fun _ => 0)))) 50 (.inl (X.2.2.1 0, 40, .inl (fun _ => 0)))) 51 (.inl (X.2.2.1 0, 40, .inl (fun _ => 0)))) 52 (.inl (X.2.2.1 0, 201, .inl (fun _ => 0)))) 53 (.inr (5, [.ref (X.1 + 37), .ref (X.1 + 54), .ref (X.1 + 55), .ref (X.1 + 56), .ref (X.1 + 57)]))) 54 (.inl (X.2.2.1 0, 40, .inl (fun _ => 0)))) 55 (.inl (X.2.2.1 0, 40, .inl (fun _ => 0)))) 56 (.inl (X.2.2.1 0, 40, .inl (fun _ => 0)))) 57 (.inl (X.2.2.1 0, 201, .inl (fun _ => 0)))) 58 (.inr (8, [.ref (X.1 + 37), .ref (X.1 + 5), .ref (X.1 + 48), .ref (X.1 + 46), .ref (X.1 + 59), .ref (X.1 + 60), .ref (X.1 + 61), .ref (X.1 + 62), .ref (X.1 + 63), .ref (X.1 + 64), .int 0, .int 0, .long 0, .long 0, .int 0]))) 59 (.inl (X.2.2.1 1, 40, .inr (.inl (fun _ => 0))))) 60 (.inl (X.2.2.1 1, 40, .inr (.inl (fun _ => 0))))) 61 (.inl (X.2.2.1 1, 40, .inr (.inl (fun _ => 0))))) 62 (.inl (X.2.2.1 1, 40, .inr (.inl (fun _ => 0))))) 63 (.inl (X.2.2.1 1, 40, .inr (.inl (fun _ => 0))))) 64 (.inl (X.2.2.1 1, 760, .inr (.inl (fun _ => 0))))) 65 (.inr (8, [.ref (X.1 + 37), .ref (X.1 + 5), .ref (X.1 + 48), .ref (X.1 + 46), .ref (X.1 + 66), .ref (X.1 + 67), .ref (X.1 + 68), .ref (X.1 + 69), .ref (X.1 + 70), .ref (X.1 + 71), .int 0, .int 0, .long 0, .long 0, .int 0]))) 66 (.inl (X.2.2.1 1, 40, .inr (.inl (fun _ => 0))))) 67 (.inl (X.2.2.1 1, 40, .inr (.inl (fun _ => 0))))) 68 (.inl (X.2.2.1 1, 40, .inr (.inl (fun _ => 0))))) 69 (.inl (X.2.2.1 1, 40, .inr (.inl (fun _ => 0))))) 70 (.inl (X.2.2.1 1, 40, .inr (.inl (fun _ => 0))))) 71 (.inl (X.2.2.1 1, 760, .inr (.inl (fun _ => 0))))) 72 (.inr (8, [.ref (X.1 + 37), .ref (X.1 + 5), .ref (X.1 + 48), .ref (X.1 + 46), .ref (X.1 + 73), .ref (X.1 + 74), .ref (X.1 + 75), .ref (X.1 + 76), .ref (X.1 + 77), .ref (X.1 + 78), .int 0, .int 0, .long 0, .long 0, .int 0]))) 73 (.inl (X.2.2.1 1, 40, .inr (.inl (fun _ => 0))))) 74 (.inl (X.2.2.1 1, 40, .inr (.inl (fun _ => 0))))) 75 (.inl (X.2.2.1 1, 40, .inr (.inl (fun _ => 0))))) 76 (.inl (X.2.2.1 1, 40, .inr (.inl (fun _ => 0))))) 77 (.inl (X.2.2.1 1, 40, .inr (.inl (fun _ => 0))))) 78 (.inl (X.2.2.1 1, 760, .inr (.inl (fun _ => 0))))) 79 (.inr (8, [.ref (X.1 + 37), .ref (X.1 + 5), .ref (X.1 + 48), .ref (X.1 + 46), .ref (X.1 + 80), .ref (X.1 + 81), .ref (X.1 + 82), .ref (X.1 + 83), .ref (X.1 + 84), .ref (X.1 + 85), .int 0, .int 0, .long 0, .long 0, .int 0]))) 80 (.inl (X.2.2.1 1, 40, .inr (.inl (fun _ => 0))))) 81 (.inl (X.2.2.1 1, 40, .inr (.inl (fun _ => 0))))) 82 (.inl (X.2.2.1 1, 40, .inr (.inl (fun _ => 0))))) 83 (.inl (X.2.2.1 1, 40, .inr (.inl (fun _ => 0))))) 84 (.inl (X.2.2.1 1, 40, .inr (.inl (fun _ => 0))))) 85 (.inl (X.2.2.1 1, 760, .inr (.inl (fun _ => 0))))) 86 (.inr (8, [.ref (X.1 + 37), .ref (X.1 + 5), .ref (X.1 + 48), .ref (X.1 + 46), .ref (X.1 + 87), .ref (X.1 + 88), .ref (X.1 + 89), .ref (X.1 + 90), .ref (X.1 + 91), .ref (X.1 + 92), .int 0, .int 0, .long 0, .long 0, .int 0]))) 87 (.inl (X.2.2.1 1, 40, .inr (.inl (fun _ => 0))))) 88 (.inl (X.2.2.1 1, 40, .inr (.inl (fun _ => 0))))) 89 (.inl (X.2.2.1 1, 40, .inr (.inl (fun _ => 0))))) 90 (.inl (X.2.2.1 1, 40, .inr (.inl (fun _ => 0))))) 91 (.inl (X.2.2.1 1, 40, .inr (.inl (fun _ => 0))))) 92 (.inl (X.2.2.1 1, 760, .inr (.inl (fun _ => 0))))) 93 (.inr (8, [.ref (X.1 + 37), .ref (X.1 + 5), .ref (X.1 + 48), .ref (X.1 + 46), .ref (X.1 + 94), .ref (X.1 + 95), .ref (X.1 + 96), .ref (X.1 + 97), .ref (X.1 + 98), .ref (X.1 + 99), .int 0, .int 0, .long 0, .long 0, .int 0]))) 94 (.inl (X.2.2.1 1, 40, .inr (.inl (fun _ => 0))))) 95 (.inl (X.2.2.1 1, 40, .inr (.inl (fun _ => 0))))) 96 (.inl (X.2.2.1 1, 40, .inr (.inl (fun _ => 0))))) 97 (.inl (X.2.2.1 1, 40, .inr (.inl (fun _ => 0))))) 98 (.inl (X.2.2.1 1, 40, .inr (.inl (fun _ => 0))))) 99 (.inl (X.2.2.1 1, 760, .inr (.inl (fun _ => 0))))) 100 (.inr (8, [.ref (X.1 + 37), .ref (X.1 + 5), .ref (X.1 + 48), .ref (X.1 + 46), .ref (X.1 + 101), .ref (X.1 + 102), .ref (X.1 + 103), .ref (X.1 + 104), .ref (X.1 + 105), .ref (X.1 + 106), .int 0, .int 0, .long 0, .long 0, .int 0]))) 101 (.inl (X.2.2.1 1, 40, .inr (.inl (fun _ => 0))))) 102 (.inl (X.2.2.1 1, 40, .inr (.inl (fun _ => 0))))) 103 (.inl (X.2.2.1 1, 40, .inr (.inl (fun _ => 0))))) 104 (.inl (X.2.2.1 1, 40, .inr (.inl (fun _ => 0))))) 105 (.inl (X.2.2.1 1, 40, .inr (.inl (fun _ => 0))))) 106 (.inl (X.2.2.1 1, 760, .inr (.inl (fun _ => 0))))) 107 (.inr (8, [.ref (X.1 + 37), .ref (X.1 + 5), .ref (X.1 + 48), .ref (X.1 + 46), .ref (X.1 + 108), .ref (X.1 + 109), .ref (X.1 + 110), .ref (X.1 + 111), .ref (X.1 + 112), .ref (X.1 + 113), .int 0, .int 0, .long 0, .long 0, .int 0]))) 108 (.inl (X.2.2.1 1, 40, .inr (.inl (fun _ => 0))))) 109 (.inl (X.2.2.1 1, 40, .inr (.inl (fun _ => 0))))) 110 (.inl (X.2.2.1 1, 40, .inr (.inl (fun _ => 0))))) 111 (.inl (X.2.2.1 1, 40, .inr (.inl (fun _ => 0))))) 112 (.inl (X.2.2.1 1, 40, .inr (.inl (fun _ => 0))))) 113 (.inl (X.2.2.1 1, 760, .inr (.inl (fun _ => 0))))) 114 (.inr (8, [.ref (X.1 + 37), .ref (X.1 + 5), .ref (X.1 + 53), .ref (X.1 + 46), .ref (X.1 + 115), .ref (X.1 + 116), .ref (X.1 + 117), .ref (X.1 + 118), .ref (X.1 + 119), .ref (X.1 + 120), .int 0, .int 0, .long 0, .long 0, .int 0]))) 115 (.inl (X.2.2.1 1, 40, .inr (.inl (fun _ => 0))))) 116 (.inl (X.2.2.1 1, 40, .inr (.inl (fun _ => 0))))) 117 (.inl (X.2.2.1 1, 40, .inr (.inl (fun _ => 0))))) 118 (.inl (X.2.2.1 1, 40, .inr (.inl (fun _ => 0))))) 119 (.inl (X.2.2.1 1, 40, .inr (.inl (fun _ => 0))))) 120 (.inl (X.2.2.1 1, 760, .inr (.inl (fun _ => 0))))) 121 (.inr (8, [.ref (X.1 + 37), .ref (X.1 + 5), .ref (X.1 + 53), .ref (X.1 + 46), .ref (X.1 + 122), .ref (X.1 + 123), .ref (X.1 + 124), .ref (X.1 + 125), .ref (X.1 + 126), .ref (X.1 + 127), .int 0, .int 0, .long 0, .long 0, .int 0]))) 122 (.inl (X.2.2.1 1, 40, .inr (.inl (fun _ => 0))))) 123 (.inl (X.2.2.1 1, 40, .inr (.inl (fun _ => 0))))) 124 (.inl (X.2.2.1 1, 40, .inr (.inl (fun _ => 0))))) 125 (.inl (X.2.2.1 1, 40, .inr (.inl (fun _ => 0))))) 126 (.inl (X.2.2.1 1, 40, .inr (.inl (fun _ => 0))))) 127 (.inl (X.2.2.1 1, 760, .inr (.inl (fun _ => 0))))) 44 (.inr (1, [.ref (X.1 + 37), .ref (X.1 + 5), .ref (X.1 + 48), .ref (X.1 + 53), .ref (X.1 + 45), .ref (X.1 + 114), .ref (X.1 + 121), .int (-1), .int (-1), .int (-1)])))) := by
  refine zMve.ofI (by decide) (Nat.le_of_ble_eq_true rfl) (fun C E hl hX hQ hin => ?_)
  subst hl
  subst hX
  refine ze_aload_n E dX1_init_0 0 rfl rfl ?_
  refine ze_objinit E zw_224 (by first | decide | simp [Value.category]) (by decide) dX1_init_1 ?_
  refine ze_aload_n E dX1_init_4 0 rfl rfl ?_
  refine ze_bipush E dX1_init_5 (v := 8) rfl ?_
  refine ze_anewaR E zw_225 (by decide) (N := 8) rfl (by decide) ⟨by decide, by decide⟩ (c2 := (1, 8)) rfl (n2 := 46) rfl dX1_init_7 ?_
  refine ze_putF E 44 (by decide) (by rw [zup_n (by decide)]; exact he) rfl zin1 4 (by decide) zw_326 tyX1 tyX1_ok nmX1 rfl hin rfl rfl rfl (Nat.le_of_ble_eq_true rfl) (fs2 := [.null, .null, .null, .null, .ref (C.X.1 + 45), .null, .null, .int 0, .int 0, .int 0]) rfl rfl dX1_init_10 ?_
  refine ze_aload_n E dX1_init_13 0 rfl rfl ?_
  refine ze_iconst E dX1_init_14 (v := (-1)) rfl ?_
  refine ze_put E 44 (by decide) rfl rfl zin1 7 (by decide) zw_329 tyX1 tyX1_ok nmX1 rfl rfl rfl (Nat.le_of_ble_eq_true rfl) (fs2 := [.null, .null, .null, .null, .ref (C.X.1 + 45), .null, .null, .int (-1), .int 0, .int 0]) rfl rfl dX1_init_15 ?_
  refine ze_aload_n E dX1_init_18 0 rfl rfl ?_
  refine ze_iconst E dX1_init_19 (v := (-1)) rfl ?_
  refine ze_put E 44 (by decide) rfl rfl zin1 8 (by decide) zw_330 tyX1 tyX1_ok nmX1 rfl rfl rfl (Nat.le_of_ble_eq_true rfl) (fs2 := [.null, .null, .null, .null, .ref (C.X.1 + 45), .null, .null, .int (-1), .int (-1), .int 0]) rfl rfl dX1_init_20 ?_
  refine ze_aload_n E dX1_init_23 0 rfl rfl ?_
  refine ze_iconst E dX1_init_24 (v := (-1)) rfl ?_
  refine ze_put E 44 (by decide) rfl rfl zin1 9 (by decide) zw_331 tyX1 tyX1_ok nmX1 rfl rfl rfl (Nat.le_of_ble_eq_true rfl) (fs2 := [.null, .null, .null, .null, .ref (C.X.1 + 45), .null, .null, .int (-1), .int (-1), .int (-1)]) rfl rfl dX1_init_25 ?_
  refine ze_new E (ci := 4) tyX4 rfl zw_227 zw_228 zw_9 zin4 tyX4_ok (fs := [.null, .int 0, .int 0, .long 0, .long 0]) (fun j hj => by
    have hj2 : j < 5 := hj
    obtain rfl | rfl | rfl | rfl | rfl : j = 0 ∨ j = 1 ∨ j = 2 ∨ j = 3 ∨ j = 4 := by omega
    all_goals rfl) ⟨by decide, by decide⟩ (c2 := (2, 13)) rfl (n2 := 47) rfl dX1_init_28 ?_
  refine ze_dup E dX1_init_31 rfl ?_
  refine ze_cINv E [] _ zy_X4_init znw_14 (ce_Judge rfl) ⟨by decide, by decide, by decide, by decide⟩ rfl rfl (by first | decide | simp [Value.category]) dX1_init_32 (cs2 := (3, 77)) rfl ?_
  refine ze_astore_n E dX1_init_35 rfl (by decide) (lv2 := [(3, .ref (C.X.1 + 46)), (0, .ref (C.X.1 + 44)), (1, .ref (C.X.1 + 37)), (2, .ref (C.X.1 + 5))]) rfl ?_
  refine ze_aload_n E dX1_init_36 1 rfl rfl ?_
  refine ze_aload_n E dX1_init_37 2 rfl rfl ?_
  refine ze_putF E 44 (by decide) rfl rfl zin1 0 (by decide) zw_322 tyX1 tyX1_ok nmX1 rfl hin rfl rfl rfl (Nat.le_of_ble_eq_true rfl) (fs2 := [.ref (C.X.1 + 37), .null, .null, .null, .ref (C.X.1 + 45), .null, .null, .int (-1), .int (-1), .int (-1)]) rfl rfl dX1_init_38 ?_
  refine ze_aload_n E dX1_init_41 1 rfl rfl ?_
  refine ze_aload_n E dX1_init_42 3 rfl rfl ?_
  refine ze_putF E 44 (by decide) rfl rfl zin1 1 (by decide) zw_323 tyX1 tyX1_ok nmX1 rfl hin rfl rfl rfl (Nat.le_of_ble_eq_true rfl) (fs2 := [.ref (C.X.1 + 37), .ref (C.X.1 + 5), .null, .null, .ref (C.X.1 + 45), .null, .null, .int (-1), .int (-1), .int (-1)]) rfl rfl dX1_init_43 ?_
  refine ze_aload_n E dX1_init_46 1 rfl rfl ?_
  refine ze_new E (ci := 5) tyX5 rfl zw_249 zw_250 zw_10 zin5 tyX5_ok (fs := [.null, .null, .null, .null, .null]) (fun j hj => by
    have hj2 : j < 5 := hj
    obtain rfl | rfl | rfl | rfl | rfl : j = 0 ∨ j = 1 ∨ j = 2 ∨ j = 3 ∨ j = 4 := by omega
    all_goals rfl) ⟨by decide, by decide⟩ (c2 := (4, 82)) rfl (n2 := 49) rfl dX1_init_47 ?_
  refine ze_dup E dX1_init_50 rfl ?_
  refine ze_aload_n E dX1_init_51 2 rfl rfl ?_
  refine ze_cIv E [.ref (C.X.1 + 37)] _ zy_X5_init zw_251 (ce_Known48 rfl) ⟨by decide, by decide, by decide, by decide⟩ rfl rfl (by first | decide | simp [Value.category]) dX1_init_52 (cs2 := (8, 403)) rfl ?_
  refine ze_putF E 44 (by decide) rfl rfl zin1 2 (by decide) zw_324 tyX1 tyX1_ok nmX1 rfl hin rfl rfl rfl (Nat.le_of_ble_eq_true rfl) (fs2 := [.ref (C.X.1 + 37), .ref (C.X.1 + 5), .ref (C.X.1 + 48), .null, .ref (C.X.1 + 45), .null, .null, .int (-1), .int (-1), .int (-1)]) rfl rfl dX1_init_55 ?_
  refine ze_aload_n E dX1_init_58 1 rfl rfl ?_
  refine ze_new E (ci := 5) tyX5 rfl zw_249 zw_250 zw_10 zin5 tyX5_ok (fs := [.null, .null, .null, .null, .null]) (fun j hj => by
    have hj2 : j < 5 := hj
    obtain rfl | rfl | rfl | rfl | rfl : j = 0 ∨ j = 1 ∨ j = 2 ∨ j = 3 ∨ j = 4 := by omega
    all_goals rfl) ⟨by decide, by decide⟩ (c2 := (9, 408)) rfl (n2 := 54) rfl dX1_init_59 ?_
  refine ze_dup E dX1_init_62 rfl ?_
  refine ze_aload_n E dX1_init_63 2 rfl rfl ?_
  refine ze_cIv E [.ref (C.X.1 + 37)] _ zy_X5_init zw_251 (ce_Known53 rfl) ⟨by decide, by decide, by decide, by decide⟩ rfl rfl (by first | decide | simp [Value.category]) dX1_init_64 (cs2 := (13, 729)) rfl ?_
  refine ze_putF E 44 (by decide) rfl rfl zin1 3 (by decide) zw_325 tyX1 tyX1_ok nmX1 rfl hin rfl rfl rfl (Nat.le_of_ble_eq_true rfl) (fs2 := [.ref (C.X.1 + 37), .ref (C.X.1 + 5), .ref (C.X.1 + 48), .ref (C.X.1 + 53), .ref (C.X.1 + 45), .null, .null, .int (-1), .int (-1), .int (-1)]) rfl rfl dX1_init_67 ?_
  refine ze_iconst E dX1_init_70 (v := 0) rfl ?_
  refine ze_istore E dX1_init_71 (by decide) (lv2 := [(4, .int 0), (3, .ref (C.X.1 + 46)), (0, .ref (C.X.1 + 44)), (1, .ref (C.X.1 + 37)), (2, .ref (C.X.1 + 5))]) rfl ?_
  refine ze_iload E dX1_init_73 0 rfl ?_
  refine ze_bipush E dX1_init_75 (v := 8) rfl ?_
  refine ze_icmp_ge E dX1_init_77 (tgt := 107) rfl (fun hc => absurd hc (by decide)) (fun _ => ?_)
  refine ze_aload_n E dX1_init_80 2 rfl rfl ?_
  refine ze_get E 44 (by decide) rfl rfl zin1 4 (by decide) zw_326 rfl dX1_init_81 ?_
  refine ze_iload E dX1_init_84 0 rfl ?_
  refine ze_new E (ci := 8) tyX8 rfl zw_225 zw_271 zw_11 zin8 tyX8_ok (fs := [.null, .null, .null, .null, .null, .null, .null, .null, .null, .null, .int 0, .int 0, .long 0, .long 0, .int 0]) (fun j hj => by
    have hj2 : j < 15 := hj
    obtain rfl | rfl | rfl | rfl | rfl | rfl | rfl | rfl | rfl | rfl | rfl | rfl | rfl | rfl | rfl : j = 0 ∨ j = 1 ∨ j = 2 ∨ j = 3 ∨ j = 4 ∨ j = 5 ∨ j = 6 ∨ j = 7 ∨ j = 8 ∨ j = 9 ∨ j = 10 ∨ j = 11 ∨ j = 12 ∨ j = 13 ∨ j = 14 := by omega
    all_goals rfl) ⟨by decide, by decide⟩ (c2 := (14, 744)) rfl (n2 := 59) rfl dX1_init_86 ?_
  refine ze_dup E dX1_init_89 rfl ?_
  refine ze_aload_n E dX1_init_90 3 rfl rfl ?_
  refine ze_aload_n E dX1_init_91 4 rfl rfl ?_
  refine ze_aload_n E dX1_init_92 2 rfl rfl ?_
  refine ze_get E 44 (by decide) rfl rfl zin1 2 (by decide) zw_324 rfl dX1_init_93 ?_
  refine ze_aload_n E dX1_init_96 1 rfl rfl ?_
  refine ze_cIv E [.ref (C.X.1 + 37), .ref (C.X.1 + 5), .ref (C.X.1 + 48), .ref (C.X.1 + 46)] _ zy_X8_init zw_272 (ce_Roll58 rfl) ⟨by decide, by decide, by decide, by decide⟩ rfl rfl (by first | decide | simp [Value.category]) dX1_init_97 (cs2 := (20, 1704)) rfl ?_
  refine ze_aastR E 45 58 (by decide) (by decide) rfl rfl (by unfold vp_in; decide) (j := 0) rfl rfl dX1_init_100 ?_
  refine ze_iinc E dX1_init_101 0 rfl (v := 1) rfl (by decide) (lv2 := [(4, .int 1), (3, .ref (C.X.1 + 46)), (0, .ref (C.X.1 + 44)), (1, .ref (C.X.1 + 37)), (2, .ref (C.X.1 + 5))]) rfl ?_
  refine ze_goto E dX1_init_104 (tgt := 73) rfl ?_
  refine ze_iload E dX1_init_73 0 rfl ?_
  refine ze_bipush E dX1_init_75 (v := 8) rfl ?_
  refine ze_icmp_ge E dX1_init_77 (tgt := 107) rfl (fun hc => absurd hc (by decide)) (fun _ => ?_)
  refine ze_aload_n E dX1_init_80 2 rfl rfl ?_
  refine ze_get E 44 (by decide) rfl rfl zin1 4 (by decide) zw_326 rfl dX1_init_81 ?_
  refine ze_iload E dX1_init_84 0 rfl ?_
  refine ze_new E (ci := 8) tyX8 rfl zw_225 zw_271 zw_11 zin8 tyX8_ok (fs := [.null, .null, .null, .null, .null, .null, .null, .null, .null, .null, .int 0, .int 0, .long 0, .long 0, .int 0]) (fun j hj => by
    have hj2 : j < 15 := hj
    obtain rfl | rfl | rfl | rfl | rfl | rfl | rfl | rfl | rfl | rfl | rfl | rfl | rfl | rfl | rfl : j = 0 ∨ j = 1 ∨ j = 2 ∨ j = 3 ∨ j = 4 ∨ j = 5 ∨ j = 6 ∨ j = 7 ∨ j = 8 ∨ j = 9 ∨ j = 10 ∨ j = 11 ∨ j = 12 ∨ j = 13 ∨ j = 14 := by omega
    all_goals rfl) ⟨by decide, by decide⟩ (c2 := (21, 1719)) rfl (n2 := 66) rfl dX1_init_86 ?_
  refine ze_dup E dX1_init_89 rfl ?_
  refine ze_aload_n E dX1_init_90 3 rfl rfl ?_
  refine ze_aload_n E dX1_init_91 4 rfl rfl ?_
  refine ze_aload_n E dX1_init_92 2 rfl rfl ?_
  refine ze_get E 44 (by decide) rfl rfl zin1 2 (by decide) zw_324 rfl dX1_init_93 ?_
  refine ze_aload_n E dX1_init_96 1 rfl rfl ?_
  refine ze_cIv E [.ref (C.X.1 + 37), .ref (C.X.1 + 5), .ref (C.X.1 + 48), .ref (C.X.1 + 46)] _ zy_X8_init zw_272 (ce_Roll65 rfl) ⟨by decide, by decide, by decide, by decide⟩ rfl rfl (by first | decide | simp [Value.category]) dX1_init_97 (cs2 := (27, 2679)) rfl ?_
  refine ze_aastR E 45 65 (by decide) (by decide) rfl rfl (by unfold vp_in; decide) (j := 1) rfl rfl dX1_init_100 ?_
  refine ze_iinc E dX1_init_101 0 rfl (v := 2) rfl (by decide) (lv2 := [(4, .int 2), (3, .ref (C.X.1 + 46)), (0, .ref (C.X.1 + 44)), (1, .ref (C.X.1 + 37)), (2, .ref (C.X.1 + 5))]) rfl ?_
  refine ze_goto E dX1_init_104 (tgt := 73) rfl ?_
  refine ze_iload E dX1_init_73 0 rfl ?_
  refine ze_bipush E dX1_init_75 (v := 8) rfl ?_
  refine ze_icmp_ge E dX1_init_77 (tgt := 107) rfl (fun hc => absurd hc (by decide)) (fun _ => ?_)
  refine ze_aload_n E dX1_init_80 2 rfl rfl ?_
  refine ze_get E 44 (by decide) rfl rfl zin1 4 (by decide) zw_326 rfl dX1_init_81 ?_
  refine ze_iload E dX1_init_84 0 rfl ?_
  refine ze_new E (ci := 8) tyX8 rfl zw_225 zw_271 zw_11 zin8 tyX8_ok (fs := [.null, .null, .null, .null, .null, .null, .null, .null, .null, .null, .int 0, .int 0, .long 0, .long 0, .int 0]) (fun j hj => by
    have hj2 : j < 15 := hj
    obtain rfl | rfl | rfl | rfl | rfl | rfl | rfl | rfl | rfl | rfl | rfl | rfl | rfl | rfl | rfl : j = 0 ∨ j = 1 ∨ j = 2 ∨ j = 3 ∨ j = 4 ∨ j = 5 ∨ j = 6 ∨ j = 7 ∨ j = 8 ∨ j = 9 ∨ j = 10 ∨ j = 11 ∨ j = 12 ∨ j = 13 ∨ j = 14 := by omega
    all_goals rfl) ⟨by decide, by decide⟩ (c2 := (28, 2694)) rfl (n2 := 73) rfl dX1_init_86 ?_
  refine ze_dup E dX1_init_89 rfl ?_
  refine ze_aload_n E dX1_init_90 3 rfl rfl ?_
  refine ze_aload_n E dX1_init_91 4 rfl rfl ?_
  refine ze_aload_n E dX1_init_92 2 rfl rfl ?_
  refine ze_get E 44 (by decide) rfl rfl zin1 2 (by decide) zw_324 rfl dX1_init_93 ?_
  refine ze_aload_n E dX1_init_96 1 rfl rfl ?_
  refine ze_cIv E [.ref (C.X.1 + 37), .ref (C.X.1 + 5), .ref (C.X.1 + 48), .ref (C.X.1 + 46)] _ zy_X8_init zw_272 (ce_Roll72 rfl) ⟨by decide, by decide, by decide, by decide⟩ rfl rfl (by first | decide | simp [Value.category]) dX1_init_97 (cs2 := (34, 3654)) rfl ?_
  refine ze_aastR E 45 72 (by decide) (by decide) rfl rfl (by unfold vp_in; decide) (j := 2) rfl rfl dX1_init_100 ?_
  refine ze_iinc E dX1_init_101 0 rfl (v := 3) rfl (by decide) (lv2 := [(4, .int 3), (3, .ref (C.X.1 + 46)), (0, .ref (C.X.1 + 44)), (1, .ref (C.X.1 + 37)), (2, .ref (C.X.1 + 5))]) rfl ?_
  refine ze_goto E dX1_init_104 (tgt := 73) rfl ?_
  refine ze_iload E dX1_init_73 0 rfl ?_
  refine ze_bipush E dX1_init_75 (v := 8) rfl ?_
  refine ze_icmp_ge E dX1_init_77 (tgt := 107) rfl (fun hc => absurd hc (by decide)) (fun _ => ?_)
  refine ze_aload_n E dX1_init_80 2 rfl rfl ?_
  refine ze_get E 44 (by decide) rfl rfl zin1 4 (by decide) zw_326 rfl dX1_init_81 ?_
  refine ze_iload E dX1_init_84 0 rfl ?_
  refine ze_new E (ci := 8) tyX8 rfl zw_225 zw_271 zw_11 zin8 tyX8_ok (fs := [.null, .null, .null, .null, .null, .null, .null, .null, .null, .null, .int 0, .int 0, .long 0, .long 0, .int 0]) (fun j hj => by
    have hj2 : j < 15 := hj
    obtain rfl | rfl | rfl | rfl | rfl | rfl | rfl | rfl | rfl | rfl | rfl | rfl | rfl | rfl | rfl : j = 0 ∨ j = 1 ∨ j = 2 ∨ j = 3 ∨ j = 4 ∨ j = 5 ∨ j = 6 ∨ j = 7 ∨ j = 8 ∨ j = 9 ∨ j = 10 ∨ j = 11 ∨ j = 12 ∨ j = 13 ∨ j = 14 := by omega
    all_goals rfl) ⟨by decide, by decide⟩ (c2 := (35, 3669)) rfl (n2 := 80) rfl dX1_init_86 ?_
  refine ze_dup E dX1_init_89 rfl ?_
  refine ze_aload_n E dX1_init_90 3 rfl rfl ?_
  refine ze_aload_n E dX1_init_91 4 rfl rfl ?_
  refine ze_aload_n E dX1_init_92 2 rfl rfl ?_
  refine ze_get E 44 (by decide) rfl rfl zin1 2 (by decide) zw_324 rfl dX1_init_93 ?_
  refine ze_aload_n E dX1_init_96 1 rfl rfl ?_
  refine ze_cIv E [.ref (C.X.1 + 37), .ref (C.X.1 + 5), .ref (C.X.1 + 48), .ref (C.X.1 + 46)] _ zy_X8_init zw_272 (ce_Roll79 rfl) ⟨by decide, by decide, by decide, by decide⟩ rfl rfl (by first | decide | simp [Value.category]) dX1_init_97 (cs2 := (41, 4629)) rfl ?_
  refine ze_aastR E 45 79 (by decide) (by decide) rfl rfl (by unfold vp_in; decide) (j := 3) rfl rfl dX1_init_100 ?_
  refine ze_iinc E dX1_init_101 0 rfl (v := 4) rfl (by decide) (lv2 := [(4, .int 4), (3, .ref (C.X.1 + 46)), (0, .ref (C.X.1 + 44)), (1, .ref (C.X.1 + 37)), (2, .ref (C.X.1 + 5))]) rfl ?_
  refine ze_goto E dX1_init_104 (tgt := 73) rfl ?_
  refine ze_iload E dX1_init_73 0 rfl ?_
  refine ze_bipush E dX1_init_75 (v := 8) rfl ?_
  refine ze_icmp_ge E dX1_init_77 (tgt := 107) rfl (fun hc => absurd hc (by decide)) (fun _ => ?_)
  refine ze_aload_n E dX1_init_80 2 rfl rfl ?_
  refine ze_get E 44 (by decide) rfl rfl zin1 4 (by decide) zw_326 rfl dX1_init_81 ?_
  refine ze_iload E dX1_init_84 0 rfl ?_
  refine ze_new E (ci := 8) tyX8 rfl zw_225 zw_271 zw_11 zin8 tyX8_ok (fs := [.null, .null, .null, .null, .null, .null, .null, .null, .null, .null, .int 0, .int 0, .long 0, .long 0, .int 0]) (fun j hj => by
    have hj2 : j < 15 := hj
    obtain rfl | rfl | rfl | rfl | rfl | rfl | rfl | rfl | rfl | rfl | rfl | rfl | rfl | rfl | rfl : j = 0 ∨ j = 1 ∨ j = 2 ∨ j = 3 ∨ j = 4 ∨ j = 5 ∨ j = 6 ∨ j = 7 ∨ j = 8 ∨ j = 9 ∨ j = 10 ∨ j = 11 ∨ j = 12 ∨ j = 13 ∨ j = 14 := by omega
    all_goals rfl) ⟨by decide, by decide⟩ (c2 := (42, 4644)) rfl (n2 := 87) rfl dX1_init_86 ?_
  refine ze_dup E dX1_init_89 rfl ?_
  refine ze_aload_n E dX1_init_90 3 rfl rfl ?_
  refine ze_aload_n E dX1_init_91 4 rfl rfl ?_
  refine ze_aload_n E dX1_init_92 2 rfl rfl ?_
  refine ze_get E 44 (by decide) rfl rfl zin1 2 (by decide) zw_324 rfl dX1_init_93 ?_
  refine ze_aload_n E dX1_init_96 1 rfl rfl ?_
  refine ze_cIv E [.ref (C.X.1 + 37), .ref (C.X.1 + 5), .ref (C.X.1 + 48), .ref (C.X.1 + 46)] _ zy_X8_init zw_272 (ce_Roll86 rfl) ⟨by decide, by decide, by decide, by decide⟩ rfl rfl (by first | decide | simp [Value.category]) dX1_init_97 (cs2 := (48, 5604)) rfl ?_
  refine ze_aastR E 45 86 (by decide) (by decide) rfl rfl (by unfold vp_in; decide) (j := 4) rfl rfl dX1_init_100 ?_
  refine ze_iinc E dX1_init_101 0 rfl (v := 5) rfl (by decide) (lv2 := [(4, .int 5), (3, .ref (C.X.1 + 46)), (0, .ref (C.X.1 + 44)), (1, .ref (C.X.1 + 37)), (2, .ref (C.X.1 + 5))]) rfl ?_
  refine ze_goto E dX1_init_104 (tgt := 73) rfl ?_
  refine ze_iload E dX1_init_73 0 rfl ?_
  refine ze_bipush E dX1_init_75 (v := 8) rfl ?_
  refine ze_icmp_ge E dX1_init_77 (tgt := 107) rfl (fun hc => absurd hc (by decide)) (fun _ => ?_)
  refine ze_aload_n E dX1_init_80 2 rfl rfl ?_
  refine ze_get E 44 (by decide) rfl rfl zin1 4 (by decide) zw_326 rfl dX1_init_81 ?_
  refine ze_iload E dX1_init_84 0 rfl ?_
  refine ze_new E (ci := 8) tyX8 rfl zw_225 zw_271 zw_11 zin8 tyX8_ok (fs := [.null, .null, .null, .null, .null, .null, .null, .null, .null, .null, .int 0, .int 0, .long 0, .long 0, .int 0]) (fun j hj => by
    have hj2 : j < 15 := hj
    obtain rfl | rfl | rfl | rfl | rfl | rfl | rfl | rfl | rfl | rfl | rfl | rfl | rfl | rfl | rfl : j = 0 ∨ j = 1 ∨ j = 2 ∨ j = 3 ∨ j = 4 ∨ j = 5 ∨ j = 6 ∨ j = 7 ∨ j = 8 ∨ j = 9 ∨ j = 10 ∨ j = 11 ∨ j = 12 ∨ j = 13 ∨ j = 14 := by omega
    all_goals rfl) ⟨by decide, by decide⟩ (c2 := (49, 5619)) rfl (n2 := 94) rfl dX1_init_86 ?_
  refine ze_dup E dX1_init_89 rfl ?_
  refine ze_aload_n E dX1_init_90 3 rfl rfl ?_
  refine ze_aload_n E dX1_init_91 4 rfl rfl ?_
  refine ze_aload_n E dX1_init_92 2 rfl rfl ?_
  refine ze_get E 44 (by decide) rfl rfl zin1 2 (by decide) zw_324 rfl dX1_init_93 ?_
  refine ze_aload_n E dX1_init_96 1 rfl rfl ?_
  refine ze_cIv E [.ref (C.X.1 + 37), .ref (C.X.1 + 5), .ref (C.X.1 + 48), .ref (C.X.1 + 46)] _ zy_X8_init zw_272 (ce_Roll93 rfl) ⟨by decide, by decide, by decide, by decide⟩ rfl rfl (by first | decide | simp [Value.category]) dX1_init_97 (cs2 := (55, 6579)) rfl ?_
  refine ze_aastR E 45 93 (by decide) (by decide) rfl rfl (by unfold vp_in; decide) (j := 5) rfl rfl dX1_init_100 ?_
  refine ze_iinc E dX1_init_101 0 rfl (v := 6) rfl (by decide) (lv2 := [(4, .int 6), (3, .ref (C.X.1 + 46)), (0, .ref (C.X.1 + 44)), (1, .ref (C.X.1 + 37)), (2, .ref (C.X.1 + 5))]) rfl ?_
  refine ze_goto E dX1_init_104 (tgt := 73) rfl ?_
  refine ze_iload E dX1_init_73 0 rfl ?_
  refine ze_bipush E dX1_init_75 (v := 8) rfl ?_
  refine ze_icmp_ge E dX1_init_77 (tgt := 107) rfl (fun hc => absurd hc (by decide)) (fun _ => ?_)
  refine ze_aload_n E dX1_init_80 2 rfl rfl ?_
  refine ze_get E 44 (by decide) rfl rfl zin1 4 (by decide) zw_326 rfl dX1_init_81 ?_
  refine ze_iload E dX1_init_84 0 rfl ?_
  refine ze_new E (ci := 8) tyX8 rfl zw_225 zw_271 zw_11 zin8 tyX8_ok (fs := [.null, .null, .null, .null, .null, .null, .null, .null, .null, .null, .int 0, .int 0, .long 0, .long 0, .int 0]) (fun j hj => by
    have hj2 : j < 15 := hj
    obtain rfl | rfl | rfl | rfl | rfl | rfl | rfl | rfl | rfl | rfl | rfl | rfl | rfl | rfl | rfl : j = 0 ∨ j = 1 ∨ j = 2 ∨ j = 3 ∨ j = 4 ∨ j = 5 ∨ j = 6 ∨ j = 7 ∨ j = 8 ∨ j = 9 ∨ j = 10 ∨ j = 11 ∨ j = 12 ∨ j = 13 ∨ j = 14 := by omega
    all_goals rfl) ⟨by decide, by decide⟩ (c2 := (56, 6594)) rfl (n2 := 101) rfl dX1_init_86 ?_
  refine ze_dup E dX1_init_89 rfl ?_
  refine ze_aload_n E dX1_init_90 3 rfl rfl ?_
  refine ze_aload_n E dX1_init_91 4 rfl rfl ?_
  refine ze_aload_n E dX1_init_92 2 rfl rfl ?_
  refine ze_get E 44 (by decide) rfl rfl zin1 2 (by decide) zw_324 rfl dX1_init_93 ?_
  refine ze_aload_n E dX1_init_96 1 rfl rfl ?_
  refine ze_cIv E [.ref (C.X.1 + 37), .ref (C.X.1 + 5), .ref (C.X.1 + 48), .ref (C.X.1 + 46)] _ zy_X8_init zw_272 (ce_Roll100 rfl) ⟨by decide, by decide, by decide, by decide⟩ rfl rfl (by first | decide | simp [Value.category]) dX1_init_97 (cs2 := (62, 7554)) rfl ?_
  refine ze_aastR E 45 100 (by decide) (by decide) rfl rfl (by unfold vp_in; decide) (j := 6) rfl rfl dX1_init_100 ?_
  refine ze_iinc E dX1_init_101 0 rfl (v := 7) rfl (by decide) (lv2 := [(4, .int 7), (3, .ref (C.X.1 + 46)), (0, .ref (C.X.1 + 44)), (1, .ref (C.X.1 + 37)), (2, .ref (C.X.1 + 5))]) rfl ?_
  refine ze_goto E dX1_init_104 (tgt := 73) rfl ?_
  refine ze_iload E dX1_init_73 0 rfl ?_
  refine ze_bipush E dX1_init_75 (v := 8) rfl ?_
  refine ze_icmp_ge E dX1_init_77 (tgt := 107) rfl (fun hc => absurd hc (by decide)) (fun _ => ?_)
  refine ze_aload_n E dX1_init_80 2 rfl rfl ?_
  refine ze_get E 44 (by decide) rfl rfl zin1 4 (by decide) zw_326 rfl dX1_init_81 ?_
  refine ze_iload E dX1_init_84 0 rfl ?_
  refine ze_new E (ci := 8) tyX8 rfl zw_225 zw_271 zw_11 zin8 tyX8_ok (fs := [.null, .null, .null, .null, .null, .null, .null, .null, .null, .null, .int 0, .int 0, .long 0, .long 0, .int 0]) (fun j hj => by
    have hj2 : j < 15 := hj
    obtain rfl | rfl | rfl | rfl | rfl | rfl | rfl | rfl | rfl | rfl | rfl | rfl | rfl | rfl | rfl : j = 0 ∨ j = 1 ∨ j = 2 ∨ j = 3 ∨ j = 4 ∨ j = 5 ∨ j = 6 ∨ j = 7 ∨ j = 8 ∨ j = 9 ∨ j = 10 ∨ j = 11 ∨ j = 12 ∨ j = 13 ∨ j = 14 := by omega
    all_goals rfl) ⟨by decide, by decide⟩ (c2 := (63, 7569)) rfl (n2 := 108) rfl dX1_init_86 ?_
  refine ze_dup E dX1_init_89 rfl ?_
  refine ze_aload_n E dX1_init_90 3 rfl rfl ?_
  refine ze_aload_n E dX1_init_91 4 rfl rfl ?_
  refine ze_aload_n E dX1_init_92 2 rfl rfl ?_
  refine ze_get E 44 (by decide) rfl rfl zin1 2 (by decide) zw_324 rfl dX1_init_93 ?_
  refine ze_aload_n E dX1_init_96 1 rfl rfl ?_
  refine ze_cIv E [.ref (C.X.1 + 37), .ref (C.X.1 + 5), .ref (C.X.1 + 48), .ref (C.X.1 + 46)] _ zy_X8_init zw_272 (ce_Roll107 rfl) ⟨by decide, by decide, by decide, by decide⟩ rfl rfl (by first | decide | simp [Value.category]) dX1_init_97 (cs2 := (69, 8529)) rfl ?_
  refine ze_aastR E 45 107 (by decide) (by decide) rfl rfl (by unfold vp_in; decide) (j := 7) rfl rfl dX1_init_100 ?_
  refine ze_iinc E dX1_init_101 0 rfl (v := 8) rfl (by decide) (lv2 := [(4, .int 8), (3, .ref (C.X.1 + 46)), (0, .ref (C.X.1 + 44)), (1, .ref (C.X.1 + 37)), (2, .ref (C.X.1 + 5))]) rfl ?_
  refine ze_goto E dX1_init_104 (tgt := 73) rfl ?_
  refine ze_iload E dX1_init_73 0 rfl ?_
  refine ze_bipush E dX1_init_75 (v := 8) rfl ?_
  refine ze_icmp_ge E dX1_init_77 (tgt := 107) rfl (fun _ => ?_) (fun hc => absurd (by decide) hc)
  refine ze_aload_n E dX1_init_107 2 rfl rfl ?_
  refine ze_new E (ci := 8) tyX8 rfl zw_225 zw_271 zw_11 zin8 tyX8_ok (fs := [.null, .null, .null, .null, .null, .null, .null, .null, .null, .null, .int 0, .int 0, .long 0, .long 0, .int 0]) (fun j hj => by
    have hj2 : j < 15 := hj
    obtain rfl | rfl | rfl | rfl | rfl | rfl | rfl | rfl | rfl | rfl | rfl | rfl | rfl | rfl | rfl : j = 0 ∨ j = 1 ∨ j = 2 ∨ j = 3 ∨ j = 4 ∨ j = 5 ∨ j = 6 ∨ j = 7 ∨ j = 8 ∨ j = 9 ∨ j = 10 ∨ j = 11 ∨ j = 12 ∨ j = 13 ∨ j = 14 := by omega
    all_goals rfl) ⟨by decide, by decide⟩ (c2 := (70, 8544)) rfl (n2 := 115) rfl dX1_init_108 ?_
  refine ze_dup E dX1_init_111 rfl ?_
  refine ze_aload_n E dX1_init_112 3 rfl rfl ?_
  refine ze_aload_n E dX1_init_113 4 rfl rfl ?_
  refine ze_aload_n E dX1_init_114 2 rfl rfl ?_
  refine ze_get E 44 (by decide) rfl rfl zin1 3 (by decide) zw_325 rfl dX1_init_115 ?_
  refine ze_aload_n E dX1_init_118 1 rfl rfl ?_
  refine ze_cIv E [.ref (C.X.1 + 37), .ref (C.X.1 + 5), .ref (C.X.1 + 53), .ref (C.X.1 + 46)] _ zy_X8_init zw_272 (ce_Roll114 rfl) ⟨by decide, by decide, by decide, by decide⟩ rfl rfl (by first | decide | simp [Value.category]) dX1_init_119 (cs2 := (76, 9504)) rfl ?_
  refine ze_putF E 44 (by decide) rfl rfl zin1 5 (by decide) zw_327 tyX1 tyX1_ok nmX1 rfl hin rfl rfl rfl (Nat.le_of_ble_eq_true rfl) (fs2 := [.ref (C.X.1 + 37), .ref (C.X.1 + 5), .ref (C.X.1 + 48), .ref (C.X.1 + 53), .ref (C.X.1 + 45), .ref (C.X.1 + 114), .null, .int (-1), .int (-1), .int (-1)]) rfl rfl dX1_init_122 ?_
  refine ze_aload_n E dX1_init_125 2 rfl rfl ?_
  refine ze_new E (ci := 8) tyX8 rfl zw_225 zw_271 zw_11 zin8 tyX8_ok (fs := [.null, .null, .null, .null, .null, .null, .null, .null, .null, .null, .int 0, .int 0, .long 0, .long 0, .int 0]) (fun j hj => by
    have hj2 : j < 15 := hj
    obtain rfl | rfl | rfl | rfl | rfl | rfl | rfl | rfl | rfl | rfl | rfl | rfl | rfl | rfl | rfl : j = 0 ∨ j = 1 ∨ j = 2 ∨ j = 3 ∨ j = 4 ∨ j = 5 ∨ j = 6 ∨ j = 7 ∨ j = 8 ∨ j = 9 ∨ j = 10 ∨ j = 11 ∨ j = 12 ∨ j = 13 ∨ j = 14 := by omega
    all_goals rfl) ⟨by decide, by decide⟩ (c2 := (77, 9519)) rfl (n2 := 122) rfl dX1_init_126 ?_
  refine ze_dup E dX1_init_129 rfl ?_
  refine ze_aload_n E dX1_init_130 3 rfl rfl ?_
  refine ze_aload_n E dX1_init_131 4 rfl rfl ?_
  refine ze_aload_n E dX1_init_132 2 rfl rfl ?_
  refine ze_get E 44 (by decide) rfl rfl zin1 3 (by decide) zw_325 rfl dX1_init_133 ?_
  refine ze_aload_n E dX1_init_136 1 rfl rfl ?_
  refine ze_cIv E [.ref (C.X.1 + 37), .ref (C.X.1 + 5), .ref (C.X.1 + 53), .ref (C.X.1 + 46)] _ zy_X8_init zw_272 (ce_Roll121 rfl) ⟨by decide, by decide, by decide, by decide⟩ rfl rfl (by first | decide | simp [Value.category]) dX1_init_137 (cs2 := (83, 10479)) rfl ?_
  refine ze_putF E 44 (by decide) rfl rfl zin1 6 (by decide) zw_328 tyX1 tyX1_ok nmX1 rfl hin rfl rfl rfl (Nat.le_of_ble_eq_true rfl) (fs2 := [.ref (C.X.1 + 37), .ref (C.X.1 + 5), .ref (C.X.1 + 48), .ref (C.X.1 + 53), .ref (C.X.1 + 45), .ref (C.X.1 + 114), .ref (C.X.1 + 121), .int (-1), .int (-1), .int (-1)]) rfl rfl dX1_init_140 ?_
  refine ze_S (e2 := (va_up (va_up (va_up (va_up (va_up (va_up (va_up (va_up (va_up (va_up (va_up (va_up (va_up (va_up (va_up (va_up (va_up (va_up (va_up (va_up (va_up (va_up (va_up (va_up (va_up (va_up (va_up (va_up (va_up (va_up (va_up (va_up (va_up (va_up (va_up (va_up (va_up (va_up (va_up (va_up (va_up (va_up (va_up (va_up (va_up (va_up (va_up (va_up (va_up (va_up (va_up (va_up (va_up (va_up (va_up (va_up (va_up (va_up (va_up (va_up (va_up (va_up (va_up (va_up (va_up (va_up (va_up (va_up (va_up (va_up (va_up (va_up (va_up (va_up (va_up (va_up (va_up (va_up (va_up (va_up (va_up (va_up (va_up (va_up e 45 (.inl (C.X.2.2.1 4, 8, .inr (.inr (.inr (.inr (va_up (va_up (va_up (va_up (va_up (va_up (va_up (va_up (fun _ => none) 0 (some (C.X.1 + 58))) 1 (some (C.X.1 + 65))) 2 (some (C.X.1 + 72))) 3 (some (C.X.1 + 79))) 4 (some (C.X.1 + 86))) 5 (some (C.X.1 + 93))) 6 (some (C.X.1 + 100))) 7 (some (C.X.1 + 107))))))))) 46 (.inr (4, [.ref (C.X.1 + 47), .int 0, .int 0, .long 0, .long 0]))) 47 (.inl (C.X.2.2.1 1, 64, .inr (.inl (fun _ => 0))))) 48 (.inr (5, [.ref (C.X.1 + 37), .ref (C.X.1 + 49), .ref (C.X.1 + 50), .ref (C.X.1 + 51), .ref (C.X.1 + 52)]))) 49 (.inl (C.X.2.2.1 0, 40, .inl (fun _ => 0)))) 50 (.inl (C.X.2.2.1 0, 40, .inl (fun _ => 0)))) 51 (.inl (C.X.2.2.1 0, 40, .inl (fun _ => 0)))) 52 (.inl (C.X.2.2.1 0, 201, .inl (fun _ => 0)))) 53 (.inr (5, [.ref (C.X.1 + 37), .ref (C.X.1 + 54), .ref (C.X.1 + 55), .ref (C.X.1 + 56), .ref (C.X.1 + 57)]))) 54 (.inl (C.X.2.2.1 0, 40, .inl (fun _ => 0)))) 55 (.inl (C.X.2.2.1 0, 40, .inl (fun _ => 0)))) 56 (.inl (C.X.2.2.1 0, 40, .inl (fun _ => 0)))) 57 (.inl (C.X.2.2.1 0, 201, .inl (fun _ => 0)))) 58 (.inr (8, [.ref (C.X.1 + 37), .ref (C.X.1 + 5), .ref (C.X.1 + 48), .ref (C.X.1 + 46), .ref (C.X.1 + 59), .ref (C.X.1 + 60), .ref (C.X.1 + 61), .ref (C.X.1 + 62), .ref (C.X.1 + 63), .ref (C.X.1 + 64), .int 0, .int 0, .long 0, .long 0, .int 0]))) 59 (.inl (C.X.2.2.1 1, 40, .inr (.inl (fun _ => 0))))) 60 (.inl (C.X.2.2.1 1, 40, .inr (.inl (fun _ => 0))))) 61 (.inl (C.X.2.2.1 1, 40, .inr (.inl (fun _ => 0))))) 62 (.inl (C.X.2.2.1 1, 40, .inr (.inl (fun _ => 0))))) 63 (.inl (C.X.2.2.1 1, 40, .inr (.inl (fun _ => 0))))) 64 (.inl (C.X.2.2.1 1, 760, .inr (.inl (fun _ => 0))))) 65 (.inr (8, [.ref (C.X.1 + 37), .ref (C.X.1 + 5), .ref (C.X.1 + 48), .ref (C.X.1 + 46), .ref (C.X.1 + 66), .ref (C.X.1 + 67), .ref (C.X.1 + 68), .ref (C.X.1 + 69), .ref (C.X.1 + 70), .ref (C.X.1 + 71), .int 0, .int 0, .long 0, .long 0, .int 0]))) 66 (.inl (C.X.2.2.1 1, 40, .inr (.inl (fun _ => 0))))) 67 (.inl (C.X.2.2.1 1, 40, .inr (.inl (fun _ => 0))))) 68 (.inl (C.X.2.2.1 1, 40, .inr (.inl (fun _ => 0))))) 69 (.inl (C.X.2.2.1 1, 40, .inr (.inl (fun _ => 0))))) 70 (.inl (C.X.2.2.1 1, 40, .inr (.inl (fun _ => 0))))) 71 (.inl (C.X.2.2.1 1, 760, .inr (.inl (fun _ => 0))))) 72 (.inr (8, [.ref (C.X.1 + 37), .ref (C.X.1 + 5), .ref (C.X.1 + 48), .ref (C.X.1 + 46), .ref (C.X.1 + 73), .ref (C.X.1 + 74), .ref (C.X.1 + 75), .ref (C.X.1 + 76), .ref (C.X.1 + 77), .ref (C.X.1 + 78), .int 0, .int 0, .long 0, .long 0, .int 0]))) 73 (.inl (C.X.2.2.1 1, 40, .inr (.inl (fun _ => 0))))) 74 (.inl (C.X.2.2.1 1, 40, .inr (.inl (fun _ => 0))))) 75 (.inl (C.X.2.2.1 1, 40, .inr (.inl (fun _ => 0))))) 76 (.inl (C.X.2.2.1 1, 40, .inr (.inl (fun _ => 0))))) 77 (.inl (C.X.2.2.1 1, 40, .inr (.inl (fun _ => 0))))) 78 (.inl (C.X.2.2.1 1, 760, .inr (.inl (fun _ => 0))))) 79 (.inr (8, [.ref (C.X.1 + 37), .ref (C.X.1 + 5), .ref (C.X.1 + 48), .ref (C.X.1 + 46), .ref (C.X.1 + 80), .ref (C.X.1 + 81), .ref (C.X.1 + 82), .ref (C.X.1 + 83), .ref (C.X.1 + 84), .ref (C.X.1 + 85), .int 0, .int 0, .long 0, .long 0, .int 0]))) 80 (.inl (C.X.2.2.1 1, 40, .inr (.inl (fun _ => 0))))) 81 (.inl (C.X.2.2.1 1, 40, .inr (.inl (fun _ => 0))))) 82 (.inl (C.X.2.2.1 1, 40, .inr (.inl (fun _ => 0))))) 83 (.inl (C.X.2.2.1 1, 40, .inr (.inl (fun _ => 0))))) 84 (.inl (C.X.2.2.1 1, 40, .inr (.inl (fun _ => 0))))) 85 (.inl (C.X.2.2.1 1, 760, .inr (.inl (fun _ => 0))))) 86 (.inr (8, [.ref (C.X.1 + 37), .ref (C.X.1 + 5), .ref (C.X.1 + 48), .ref (C.X.1 + 46), .ref (C.X.1 + 87), .ref (C.X.1 + 88), .ref (C.X.1 + 89), .ref (C.X.1 + 90), .ref (C.X.1 + 91), .ref (C.X.1 + 92), .int 0, .int 0, .long 0, .long 0, .int 0]))) 87 (.inl (C.X.2.2.1 1, 40, .inr (.inl (fun _ => 0))))) 88 (.inl (C.X.2.2.1 1, 40, .inr (.inl (fun _ => 0))))) 89 (.inl (C.X.2.2.1 1, 40, .inr (.inl (fun _ => 0))))) 90 (.inl (C.X.2.2.1 1, 40, .inr (.inl (fun _ => 0))))) 91 (.inl (C.X.2.2.1 1, 40, .inr (.inl (fun _ => 0))))) 92 (.inl (C.X.2.2.1 1, 760, .inr (.inl (fun _ => 0))))) 93 (.inr (8, [.ref (C.X.1 + 37), .ref (C.X.1 + 5), .ref (C.X.1 + 48), .ref (C.X.1 + 46), .ref (C.X.1 + 94), .ref (C.X.1 + 95), .ref (C.X.1 + 96), .ref (C.X.1 + 97), .ref (C.X.1 + 98), .ref (C.X.1 + 99), .int 0, .int 0, .long 0, .long 0, .int 0]))) 94 (.inl (C.X.2.2.1 1, 40, .inr (.inl (fun _ => 0))))) 95 (.inl (C.X.2.2.1 1, 40, .inr (.inl (fun _ => 0))))) 96 (.inl (C.X.2.2.1 1, 40, .inr (.inl (fun _ => 0))))) 97 (.inl (C.X.2.2.1 1, 40, .inr (.inl (fun _ => 0))))) 98 (.inl (C.X.2.2.1 1, 40, .inr (.inl (fun _ => 0))))) 99 (.inl (C.X.2.2.1 1, 760, .inr (.inl (fun _ => 0))))) 100 (.inr (8, [.ref (C.X.1 + 37), .ref (C.X.1 + 5), .ref (C.X.1 + 48), .ref (C.X.1 + 46), .ref (C.X.1 + 101), .ref (C.X.1 + 102), .ref (C.X.1 + 103), .ref (C.X.1 + 104), .ref (C.X.1 + 105), .ref (C.X.1 + 106), .int 0, .int 0, .long 0, .long 0, .int 0]))) 101 (.inl (C.X.2.2.1 1, 40, .inr (.inl (fun _ => 0))))) 102 (.inl (C.X.2.2.1 1, 40, .inr (.inl (fun _ => 0))))) 103 (.inl (C.X.2.2.1 1, 40, .inr (.inl (fun _ => 0))))) 104 (.inl (C.X.2.2.1 1, 40, .inr (.inl (fun _ => 0))))) 105 (.inl (C.X.2.2.1 1, 40, .inr (.inl (fun _ => 0))))) 106 (.inl (C.X.2.2.1 1, 760, .inr (.inl (fun _ => 0))))) 107 (.inr (8, [.ref (C.X.1 + 37), .ref (C.X.1 + 5), .ref (C.X.1 + 48), .ref (C.X.1 + 46), .ref (C.X.1 + 108), .ref (C.X.1 + 109), .ref (C.X.1 + 110), .ref (C.X.1 + 111), .ref (C.X.1 + 112), .ref (C.X.1 + 113), .int 0, .int 0, .long 0, .long 0, .int 0]))) 108 (.inl (C.X.2.2.1 1, 40, .inr (.inl (fun _ => 0))))) 109 (.inl (C.X.2.2.1 1, 40, .inr (.inl (fun _ => 0))))) 110 (.inl (C.X.2.2.1 1, 40, .inr (.inl (fun _ => 0))))) 111 (.inl (C.X.2.2.1 1, 40, .inr (.inl (fun _ => 0))))) 112 (.inl (C.X.2.2.1 1, 40, .inr (.inl (fun _ => 0))))) 113 (.inl (C.X.2.2.1 1, 760, .inr (.inl (fun _ => 0))))) 114 (.inr (8, [.ref (C.X.1 + 37), .ref (C.X.1 + 5), .ref (C.X.1 + 53), .ref (C.X.1 + 46), .ref (C.X.1 + 115), .ref (C.X.1 + 116), .ref (C.X.1 + 117), .ref (C.X.1 + 118), .ref (C.X.1 + 119), .ref (C.X.1 + 120), .int 0, .int 0, .long 0, .long 0, .int 0]))) 115 (.inl (C.X.2.2.1 1, 40, .inr (.inl (fun _ => 0))))) 116 (.inl (C.X.2.2.1 1, 40, .inr (.inl (fun _ => 0))))) 117 (.inl (C.X.2.2.1 1, 40, .inr (.inl (fun _ => 0))))) 118 (.inl (C.X.2.2.1 1, 40, .inr (.inl (fun _ => 0))))) 119 (.inl (C.X.2.2.1 1, 40, .inr (.inl (fun _ => 0))))) 120 (.inl (C.X.2.2.1 1, 760, .inr (.inl (fun _ => 0))))) 121 (.inr (8, [.ref (C.X.1 + 37), .ref (C.X.1 + 5), .ref (C.X.1 + 53), .ref (C.X.1 + 46), .ref (C.X.1 + 122), .ref (C.X.1 + 123), .ref (C.X.1 + 124), .ref (C.X.1 + 125), .ref (C.X.1 + 126), .ref (C.X.1 + 127), .int 0, .int 0, .long 0, .long 0, .int 0]))) 122 (.inl (C.X.2.2.1 1, 40, .inr (.inl (fun _ => 0))))) 123 (.inl (C.X.2.2.1 1, 40, .inr (.inl (fun _ => 0))))) 124 (.inl (C.X.2.2.1 1, 40, .inr (.inl (fun _ => 0))))) 125 (.inl (C.X.2.2.1 1, 40, .inr (.inl (fun _ => 0))))) 126 (.inl (C.X.2.2.1 1, 40, .inr (.inl (fun _ => 0))))) 127 (.inl (C.X.2.2.1 1, 760, .inr (.inl (fun _ => 0))))) 44 (.inr (1, [.ref (C.X.1 + 37), .ref (C.X.1 + 5), .ref (C.X.1 + 48), .ref (C.X.1 + 53), .ref (C.X.1 + 45), .ref (C.X.1 + 114), .ref (C.X.1 + 121), .int (-1), .int (-1), .int (-1)])))) (by
    funext i
    by_cases h45 : i = 45
    · subst h45
      rfl
    by_cases h46 : i = 46
    · subst h46
      rfl
    by_cases h47 : i = 47
    · subst h47
      rfl
    by_cases h48 : i = 48
    · subst h48
      rfl
    by_cases h49 : i = 49
    · subst h49
      rfl
    by_cases h50 : i = 50
    · subst h50
      rfl
    by_cases h51 : i = 51
    · subst h51
      rfl
    by_cases h52 : i = 52
    · subst h52
      rfl
    by_cases h53 : i = 53
    · subst h53
      rfl
    by_cases h54 : i = 54
    · subst h54
      rfl
    by_cases h55 : i = 55
    · subst h55
      rfl
    by_cases h56 : i = 56
    · subst h56
      rfl
    by_cases h57 : i = 57
    · subst h57
      rfl
    by_cases h58 : i = 58
    · subst h58
      rfl
    by_cases h59 : i = 59
    · subst h59
      rfl
    by_cases h60 : i = 60
    · subst h60
      rfl
    by_cases h61 : i = 61
    · subst h61
      rfl
    by_cases h62 : i = 62
    · subst h62
      rfl
    by_cases h63 : i = 63
    · subst h63
      rfl
    by_cases h64 : i = 64
    · subst h64
      rfl
    by_cases h65 : i = 65
    · subst h65
      rfl
    by_cases h66 : i = 66
    · subst h66
      rfl
    by_cases h67 : i = 67
    · subst h67
      rfl
    by_cases h68 : i = 68
    · subst h68
      rfl
    by_cases h69 : i = 69
    · subst h69
      rfl
    by_cases h70 : i = 70
    · subst h70
      rfl
    by_cases h71 : i = 71
    · subst h71
      rfl
    by_cases h72 : i = 72
    · subst h72
      rfl
    by_cases h73 : i = 73
    · subst h73
      rfl
    by_cases h74 : i = 74
    · subst h74
      rfl
    by_cases h75 : i = 75
    · subst h75
      rfl
    by_cases h76 : i = 76
    · subst h76
      rfl
    by_cases h77 : i = 77
    · subst h77
      rfl
    by_cases h78 : i = 78
    · subst h78
      rfl
    by_cases h79 : i = 79
    · subst h79
      rfl
    by_cases h80 : i = 80
    · subst h80
      rfl
    by_cases h81 : i = 81
    · subst h81
      rfl
    by_cases h82 : i = 82
    · subst h82
      rfl
    by_cases h83 : i = 83
    · subst h83
      rfl
    by_cases h84 : i = 84
    · subst h84
      rfl
    by_cases h85 : i = 85
    · subst h85
      rfl
    by_cases h86 : i = 86
    · subst h86
      rfl
    by_cases h87 : i = 87
    · subst h87
      rfl
    by_cases h88 : i = 88
    · subst h88
      rfl
    by_cases h89 : i = 89
    · subst h89
      rfl
    by_cases h90 : i = 90
    · subst h90
      rfl
    by_cases h91 : i = 91
    · subst h91
      rfl
    by_cases h92 : i = 92
    · subst h92
      rfl
    by_cases h93 : i = 93
    · subst h93
      rfl
    by_cases h94 : i = 94
    · subst h94
      rfl
    by_cases h95 : i = 95
    · subst h95
      rfl
    by_cases h96 : i = 96
    · subst h96
      rfl
    by_cases h97 : i = 97
    · subst h97
      rfl
    by_cases h98 : i = 98
    · subst h98
      rfl
    by_cases h99 : i = 99
    · subst h99
      rfl
    by_cases h100 : i = 100
    · subst h100
      rfl
    by_cases h101 : i = 101
    · subst h101
      rfl
    by_cases h102 : i = 102
    · subst h102
      rfl
    by_cases h103 : i = 103
    · subst h103
      rfl
    by_cases h104 : i = 104
    · subst h104
      rfl
    by_cases h105 : i = 105
    · subst h105
      rfl
    by_cases h106 : i = 106
    · subst h106
      rfl
    by_cases h107 : i = 107
    · subst h107
      rfl
    by_cases h108 : i = 108
    · subst h108
      rfl
    by_cases h109 : i = 109
    · subst h109
      rfl
    by_cases h110 : i = 110
    · subst h110
      rfl
    by_cases h111 : i = 111
    · subst h111
      rfl
    by_cases h112 : i = 112
    · subst h112
      rfl
    by_cases h113 : i = 113
    · subst h113
      rfl
    by_cases h114 : i = 114
    · subst h114
      rfl
    by_cases h115 : i = 115
    · subst h115
      rfl
    by_cases h116 : i = 116
    · subst h116
      rfl
    by_cases h117 : i = 117
    · subst h117
      rfl
    by_cases h118 : i = 118
    · subst h118
      rfl
    by_cases h119 : i = 119
    · subst h119
      rfl
    by_cases h120 : i = 120
    · subst h120
      rfl
    by_cases h121 : i = 121
    · subst h121
      rfl
    by_cases h122 : i = 122
    · subst h122
      rfl
    by_cases h123 : i = 123
    · subst h123
      rfl
    by_cases h124 : i = 124
    · subst h124
      rfl
    by_cases h125 : i = 125
    · subst h125
      rfl
    by_cases h126 : i = 126
    · subst h126
      rfl
    by_cases h127 : i = 127
    · subst h127
      rfl
    by_cases h44 : i = 44
    · subst h44
      rfl
    simp only [va_up, h45, h46, h47, h48, h49, h50, h51, h52, h53, h54, h55, h56, h57, h58, h59, h60, h61, h62, h63, h64, h65, h66, h67, h68, h69, h70, h71, h72, h73, h74, h75, h76, h77, h78, h79, h80, h81, h82, h83, h84, h85, h86, h87, h88, h89, h90, h91, h92, h93, h94, h95, h96, h97, h98, h99, h100, h101, h102, h103, h104, h105, h106, h107, h108, h109, h110, h111, h112, h113, h114, h115, h116, h117, h118, h119, h120, h121, h122, h123, h124, h125, h126, h127, h44, if_false]) ?_
  exact ze_vret E hQ rfl ⟨by decide, by decide⟩ dX1_init_143
