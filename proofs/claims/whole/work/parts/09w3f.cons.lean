set_option maxHeartbeats 1000000
set_option maxRecDepth 100000
theorem dX11_init_0 : decode cX11_init 0 = .ok (.aload_n 0, 1) := by decide +kernel
theorem dX11_init_1 : decode cX11_init 1 = .ok (.invokespecial 1, 3) := by decide +kernel
theorem dX11_init_4 : decode cX11_init 4 = .ok (.aload_n 0, 1) := by decide +kernel
theorem dX11_init_5 : decode cX11_init 5 = .ok (.iconst (-1), 1) := by decide +kernel
theorem dX11_init_6 : decode cX11_init 6 = .ok (.putfield 9, 3) := by decide +kernel
theorem dX11_init_9 : decode cX11_init 9 = .ok (.aload_n 0, 1) := by decide +kernel
theorem dX11_init_10 : decode cX11_init 10 = .ok (.new 13, 3) := by decide +kernel
theorem dX11_init_13 : decode cX11_init 13 = .ok (.dup, 1) := by decide +kernel
theorem dX11_init_14 : decode cX11_init 14 = .ok (.invokespecial 15, 3) := by decide +kernel
theorem dX11_init_17 : decode cX11_init 17 = .ok (.putfield 16, 3) := by decide +kernel
theorem dX11_init_20 : decode cX11_init 20 = .ok (.aload_n 0, 1) := by decide +kernel
theorem dX11_init_21 : decode cX11_init 21 = .ok (.new 20, 3) := by decide +kernel
theorem dX11_init_24 : decode cX11_init 24 = .ok (.dup, 1) := by decide +kernel
theorem dX11_init_25 : decode cX11_init 25 = .ok (.invokespecial 22, 3) := by decide +kernel
theorem dX11_init_28 : decode cX11_init 28 = .ok (.putfield 23, 3) := by decide +kernel
theorem dX11_init_31 : decode cX11_init 31 = .ok (.aload_n 0, 1) := by decide +kernel
theorem dX11_init_32 : decode cX11_init 32 = .ok (.new 27, 3) := by decide +kernel
theorem dX11_init_35 : decode cX11_init 35 = .ok (.dup, 1) := by decide +kernel
theorem dX11_init_36 : decode cX11_init 36 = .ok (.invokespecial 29, 3) := by decide +kernel
theorem dX11_init_39 : decode cX11_init 39 = .ok (.putfield 30, 3) := by decide +kernel
theorem dX11_init_42 : decode cX11_init 42 = .ok (.aload_n 0, 1) := by decide +kernel
theorem dX11_init_43 : decode cX11_init 43 = .ok (.new 34, 3) := by decide +kernel
theorem dX11_init_46 : decode cX11_init 46 = .ok (.dup, 1) := by decide +kernel
theorem dX11_init_47 : decode cX11_init 47 = .ok (.invokespecial 36, 3) := by decide +kernel
theorem dX11_init_50 : decode cX11_init 50 = .ok (.putfield 37, 3) := by decide +kernel
theorem dX11_init_53 : decode cX11_init 53 = .ok (.aload_n 0, 1) := by decide +kernel
theorem dX11_init_54 : decode cX11_init 54 = .ok (.new 41, 3) := by decide +kernel
theorem dX11_init_57 : decode cX11_init 57 = .ok (.dup, 1) := by decide +kernel
theorem dX11_init_58 : decode cX11_init 58 = .ok (.aload_n 0, 1) := by decide +kernel
theorem dX11_init_59 : decode cX11_init 59 = .ok (.getfield 37, 3) := by decide +kernel
theorem dX11_init_62 : decode cX11_init 62 = .ok (.aload_n 0, 1) := by decide +kernel
theorem dX11_init_63 : decode cX11_init 63 = .ok (.getfield 23, 3) := by decide +kernel
theorem dX11_init_66 : decode cX11_init 66 = .ok (.invokespecial 43, 3) := by decide +kernel
theorem dX11_init_69 : decode cX11_init 69 = .ok (.putfield 46, 3) := by decide +kernel
theorem dX11_init_72 : decode cX11_init 72 = .ok (.return_, 1) := by decide +kernel
theorem zy_X11_init : zYi yX11_init cX11_init 1 0 := ⟨zw_24, rfl, zw_1, zw_25, by decide, by decide, by decide⟩
theorem ce_Cloth {l : Launch} {X : zX} {e : Nat → va_E} (he : e 0 = .inr (11, [.null, .null, .null, .null, .null, .int 0])) : zMve l yX11_init cX11_init 1 none ({ frames := 3, cells := 127, slots := 14006, locals := 68 } : Room) X [.ref (X.1 + 0)] (1, e) (128, (va_up (va_up (va_up (va_up (va_up (va_up (va_up (va_up (va_up (va_up (va_up (va_up (va_up (va_up (va_up (va_up (va_up (va_up (va_up (va_up (va_up (va_up (va_up (va_up (va_up (va_up (va_up (va_up (va_up (va_up (va_up (va_up (va_up (va_up (va_up (va_up (va_up (va_up (va_up (va_up (va_up (va_up (va_up (va_up (va_up (va_up (va_up (va_up (va_up (va_up (va_up (va_up (va_up (va_up (va_up (va_up (va_up (va_up (va_up (va_up (va_up (va_up (va_up (va_up (va_up (va_up (va_up (va_up (va_up (va_up (va_up (va_up (va_up (va_up (va_up (va_up (va_up (va_up (va_up (va_up (va_up (va_up (va_up (va_up (va_up (va_up (va_up (va_up (va_up (va_up (va_up (va_up (va_up (va_up (va_up (va_up (va_up (va_up (va_up (va_up (va_up (va_up (va_up (va_up (va_up (va_up (va_up (va_up (va_up (va_up (va_up (va_up (va_up (va_up (va_up (va_up (va_up (va_up (va_up (va_up (va_up (va_up (va_up (va_up (va_up (va_up (va_up (va_up e 1 (.inr (3, [.ref (X.1 + 2), .ref (X.1 + 3), .ref (X.1 + 4)]))) 2 (.inl (X.2.2.1 0, 13, .inl (fun _ => 0)))) 3 (.inl (X.2.2.1 0, 13, .inl (fun _ => 0)))) 4 (.inl (X.2.2.1 0, 13, .inl (fun _ => 0)))) 5 (.inr (2, [.ref (X.1 + 6), .ref (X.1 + 7), .ref (X.1 + 8), .ref (X.1 + 9), .ref (X.1 + 10), .ref (X.1 + 11), .ref (X.1 + 12), .ref (X.1 + 13), .int 3, .int 8, .int 20, .int 0, .int 0]))) 6 (.inl (X.2.2.1 0, 240, .inl (fun _ => 0)))) 7 (.inl (X.2.2.1 0, 240, .inl (fun _ => 0)))) 8 (.inl (X.2.2.1 0, 20, .inl (fun _ => 0)))) 9 (.inl (X.2.2.1 0, 100, .inl (fun _ => (-2))))) 10 (.inl (X.2.2.1 0, 13, .inl (fun _ => 0)))) 11 (.inl (X.2.2.1 0, 13, .inl (fun _ => 0)))) 12 (.inl (X.2.2.1 0, 10, .inl (fun _ => 0)))) 13 (.inr (6, [.ref (X.1 + 14), .ref (X.1 + 26), .ref (X.1 + 27), .ref (X.1 + 28), .ref (X.1 + 29), .ref (X.1 + 30), .ref (X.1 + 31), .ref (X.1 + 32)]))) 14 (.inl (X.2.2.1 7, 11, .inr (.inr (.inr (.inr (fun i => if i < 11 then some (X.1 + (14 + 1 + i)) else none))))))) 15 (.inl (X.2.2.1 1, 21, .inr (.inl (fun _ => 0))))) 16 (.inl (X.2.2.1 1, 21, .inr (.inl (fun _ => 0))))) 17 (.inl (X.2.2.1 1, 21, .inr (.inl (fun _ => 0))))) 18 (.inl (X.2.2.1 1, 21, .inr (.inl (fun _ => 0))))) 19 (.inl (X.2.2.1 1, 21, .inr (.inl (fun _ => 0))))) 20 (.inl (X.2.2.1 1, 21, .inr (.inl (fun _ => 0))))) 21 (.inl (X.2.2.1 1, 21, .inr (.inl (fun _ => 0))))) 22 (.inl (X.2.2.1 1, 21, .inr (.inl (fun _ => 0))))) 23 (.inl (X.2.2.1 1, 21, .inr (.inl (fun _ => 0))))) 24 (.inl (X.2.2.1 1, 21, .inr (.inl (fun _ => 0))))) 25 (.inl (X.2.2.1 1, 21, .inr (.inl (fun _ => 0))))) 26 (.inl (X.2.2.1 1, 11, .inr (.inl (fun _ => 0))))) 27 (.inl (X.2.2.1 1, 21, .inr (.inl (fun _ => 0))))) 28 (.inl (X.2.2.1 1, 21, .inr (.inl (fun _ => 0))))) 29 (.inl (X.2.2.1 0, 21, .inl (fun _ => 0)))) 30 (.inl (X.2.2.1 0, 21, .inl (fun _ => 0)))) 31 (.inl (X.2.2.1 3, 21, .inl (fun _ => 0)))) 32 (.inl (X.2.2.1 0, 10, .inl (fun _ => 0)))) 33 (.inr (7, [.ref (X.1 + 34), .ref (X.1 + 35), .ref (X.1 + 36), .int 0, .int 0, .int 0, .int 0, .int 0, .int 0, .int 0, .int 0, .int (-1)]))) 34 (.inl (X.2.2.1 2, 600, .inl (fun _ => 0)))) 35 (.inl (X.2.2.1 0, 600, .inl (fun _ => 0)))) 36 (.inl (X.2.2.1 5, 24, .inr (.inr (.inr (.inr (fun _ => none))))))) 37 (.inr (0, [.ref (X.1 + 38), .ref (X.1 + 39), .ref (X.1 + 40), .ref (X.1 + 41), .ref (X.1 + 42), .ref (X.1 + 43), .int 0, .int 0]))) 38 (.inl (X.2.2.1 0, 201, .inl (fun _ => 0)))) 39 (.inl (X.2.2.1 0, 201, .inl (fun _ => 0)))) 40 (.inl (X.2.2.1 0, 201, .inl (fun _ => 0)))) 41 (.inl (X.2.2.1 0, 201, .inl (fun _ => 0)))) 42 (.inl (X.2.2.1 0, 201, .inl (fun _ => 0)))) 43 (.inl (X.2.2.1 6, 201, .inr (.inr (.inr (.inr (fun _ => none))))))) 44 (.inr (1, [.ref (X.1 + 37), .ref (X.1 + 5), .ref (X.1 + 48), .ref (X.1 + 53), .ref (X.1 + 45), .ref (X.1 + 114), .ref (X.1 + 121), .int (-1), .int (-1), .int (-1)]))) 45 (.inl (X.2.2.1 4, 8, .inr (.inr (.inr (.inr (va_up (va_up (va_up (va_up (va_up (va_up (va_up (va_up (fun _ => none) 0 (some (X.1 + 58))) 1 (some (X.1 + 65))) 2 (some (X.1 + 72))) 3 (some (X.1 + 79))) 4 (some (X.1 + 86))) 5 (some (X.1 + 93))) 6 (some (X.1 + 100))) 7 (some (X.1 + 107))))))))) 46 (.inr (4, [.ref (X.1 + 47), .int 0, .int 0, .long 0, .long 0]))) 47 (.inl (X.2.2.1 1, 64, .inr (.inl (fun _ => 0))))) 48 (.inr (5, [.ref (X.1 + 37), .ref (X.1 + 49), .ref (X.1 + 50), .ref (X.1 + 51), .ref (X.1 + 52)]))) 49 (.inl (X.2.2.1 0, 40, .inl (fun _ => 0)))) 50 (.inl (X.2.2.1 0, 40, .inl (fun _ => 0)))) 51 (.inl (X.2.2.1 0, 40, .inl (fun _ => 0)))) 52 (.inl (X.2.2.1 0, 201, .inl (fun _ => 0)))) 53 (.inr (5, [.ref (X.1 + 37), .ref (X.1 + 54), .ref (X.1 + 55), .ref (X.1 + 56), .ref (X.1 + 57)]))) 54 (.inl (X.2.2.1 0, 40, .inl (fun _ => 0)))) 55 (.inl (X.2.2.1 0, 40, .inl (fun _ => 0)))) 56 (.inl (X.2.2.1 0, 40, .inl (fun _ => 0)))) 57 (.inl (X.2.2.1 0, 201, .inl (fun _ => 0)))) 58 (.inr (8, [.ref (X.1 + 37), .ref (X.1 + 5), .ref (X.1 + 48), .ref (X.1 + 46), .ref (X.1 + 59), .ref (X.1 + 60), .ref (X.1 + 61), .ref (X.1 + 62), .ref (X.1 + 63), .ref (X.1 + 64), .int 0, .int 0, .long 0, .long 0, .int 0]))) 59 (.inl (X.2.2.1 1, 40, .inr (.inl (fun _ => 0))))) 60 (.inl (X.2.2.1 1, 40, .inr (.inl (fun _ => 0))))) 61 (.inl (X.2.2.1 1, 40, .inr (.inl (fun _ => 0))))) 62 (.inl (X.2.2.1 1, 40, .inr (.inl (fun _ => 0))))) 63 (.inl (X.2.2.1 1, 40, .inr (.inl (fun _ => 0))))) 64 (.inl (X.2.2.1 1, 760, .inr (.inl (fun _ => 0))))) 65 (.inr (8, [.ref (X.1 + 37), .ref (X.1 + 5), .ref (X.1 + 48), .ref (X.1 + 46), .ref (X.1 + 66), .ref (X.1 + 67), .ref (X.1 + 68), .ref (X.1 + 69), .ref (X.1 + 70), .ref (X.1 + 71), .int 0, .int 0, .long 0, .long 0, .int 0]))) 66 (.inl (X.2.2.1 1, 40, .inr (.inl (fun _ => 0))))) 67 (.inl (X.2.2.1 1, 40, .inr (.inl (fun _ => 0))))) 68 (.inl (X.2.2.1 1, 40, .inr (.inl (fun _ => 0))))) 69 (.inl (X.2.2.1 1, 40, .inr (.inl (fun _ => 0))))) 70 (.inl (X.2.2.1 1, 40, .inr (.inl (fun _ => 0))))) 71 (.inl (X.2.2.1 1, 760, .inr (.inl (fun _ => 0))))) 72 (.inr (8, [.ref (X.1 + 37), .ref (X.1 + 5), .ref (X.1 + 48), .ref (X.1 + 46), .ref (X.1 + 73), .ref (X.1 + 74), .ref (X.1 + 75), .ref (X.1 + 76), .ref (X.1 + 77), .ref (X.1 + 78), .int 0, .int 0, .long 0, .long 0, .int 0]))) 73 (.inl (X.2.2.1 1, 40, .inr (.inl (fun _ => 0))))) 74 (.inl (X.2.2.1 1, 40, .inr (.inl (fun _ => 0))))) 75 (.inl (X.2.2.1 1, 40, .inr (.inl (fun _ => 0))))) 76 (.inl (X.2.2.1 1, 40, .inr (.inl (fun _ => 0))))) 77 (.inl (X.2.2.1 1, 40, .inr (.inl (fun _ => 0))))) 78 (.inl (X.2.2.1 1, 760, .inr (.inl (fun _ => 0))))) 79 (.inr (8, [.ref (X.1 + 37), .ref (X.1 + 5), .ref (X.1 + 48), .ref (X.1 + 46), .ref (X.1 + 80), .ref (X.1 + 81), .ref (X.1 + 82), .ref (X.1 + 83), .ref (X.1 + 84), .ref (X.1 + 85), .int 0, .int 0, .long 0, .long 0, .int 0]))) 80 (.inl (X.2.2.1 1, 40, .inr (.inl (fun _ => 0))))) 81 (.inl (X.2.2.1 1, 40, .inr (.inl (fun _ => 0))))) 82 (.inl (X.2.2.1 1, 40, .inr (.inl (fun _ => 0))))) 83 (.inl (X.2.2.1 1, 40, .inr (.inl (fun _ => 0))))) 84 (.inl (X.2.2.1 1, 40, .inr (.inl (fun _ => 0))))) 85 (.inl (X.2.2.1 1, 760, .inr (.inl (fun _ => 0))))) 86 (.inr (8, [.ref (X.1 + 37), .ref (X.1 + 5), .ref (X.1 + 48), .ref (X.1 + 46), .ref (X.1 + 87), .ref (X.1 + 88), .ref (X.1 + 89), .ref (X.1 + 90), .ref (X.1 + 91), .ref (X.1 + 92), .int 0, .int 0, .long 0, .long 0, .int 0]))) 87 (.inl (X.2.2.1 1, 40, .inr (.inl (fun _ => 0))))) 88 (.inl (X.2.2.1 1, 40, .inr (.inl (fun _ => 0))))) 89 (.inl (X.2.2.1 1, 40, .inr (.inl (fun _ => 0))))) 90 (.inl (X.2.2.1 1, 40, .inr (.inl (fun _ => 0))))) 91 (.inl (X.2.2.1 1, 40, .inr (.inl (fun _ => 0))))) 92 (.inl (X.2.2.1 1, 760, .inr (.inl (fun _ => 0))))) 93 (.inr (8, [.ref (X.1 + 37), .ref (X.1 + 5), .ref (X.1 + 48), .ref (X.1 + 46), .ref (X.1 + 94), .ref (X.1 + 95), .ref (X.1 + 96), .ref (X.1 + 97), .ref (X.1 + 98), .ref (X.1 + 99), .int 0, .int 0, .long 0, .long 0, .int 0]))) 94 (.inl (X.2.2.1 1, 40, .inr (.inl (fun _ => 0))))) 95 (.inl (X.2.2.1 1, 40, .inr (.inl (fun _ => 0))))) 96 (.inl (X.2.2.1 1, 40, .inr (.inl (fun _ => 0))))) 97 (.inl (X.2.2.1 1, 40, .inr (.inl (fun _ => 0))))) 98 (.inl (X.2.2.1 1, 40, .inr (.inl (fun _ => 0))))) 99 (.inl (X.2.2.1 1, 760, .inr (.inl (fun _ => 0))))) 100 (.inr (8, [.ref (X.1 + 37), .ref (X.1 + 5), .ref (X.1 + 48), .ref (X.1 + 46), .ref (X.1 + 101), .ref (X.1 + 102), .ref (X.1 + 103), .ref (X.1 + 104), .ref (X.1 + 105), .ref (X.1 + 106), .int 0, .int 0, .long 0, .long 0, .int 0]))) 101 (.inl (X.2.2.1 1, 40, .inr (.inl (fun _ => 0))))) 102 (.inl (X.2.2.1 1, 40, .inr (.inl (fun _ => 0))))) 103 (.inl (X.2.2.1 1, 40, .inr (.inl (fun _ => 0))))) 104 (.inl (X.2.2.1 1, 40, .inr (.inl (fun _ => 0))))) 105 (.inl (X.2.2.1 1, 40, .inr (.inl (fun _ => 0))))) 106 (.inl (X.2.2.1 1, 760, .inr (.inl (fun _ => 0))))) 107 (.inr (8, [.ref (X.1 + 37), .ref (X.1 + 5), .ref (X.1 + 48), .ref (X.1 + 46), .ref (X.1 + 108), .ref (X.1 + 109), .ref (X.1 + 110), .ref (X.1 + 111), .ref (X.1 + 112), .ref (X.1 + 113), .int 0, .int 0, .long 0, .long 0, .int 0]))) 108 (.inl (X.2.2.1 1, 40, .inr (.inl (fun _ => 0))))) 109 (.inl (X.2.2.1 1, 40, .inr (.inl (fun _ => 0))))) 110 (.inl (X.2.2.1 1, 40, .inr (.inl (fun _ => 0))))) 111 (.inl (X.2.2.1 1, 40, .inr (.inl (fun _ => 0))))) 112 (.inl (X.2.2.1 1, 40, .inr (.inl (fun _ => 0))))) 113 (.inl (X.2.2.1 1, 760, .inr (.inl (fun _ => 0))))) 114 (.inr (8, [.ref (X.1 + 37), .ref (X.1 + 5), .ref (X.1 + 53), .ref (X.1 + 46), .ref (X.1 + 115), .ref (X.1 + 116), .ref (X.1 + 117), .ref (X.1 + 118), .ref (X.1 + 119), .ref (X.1 + 120), .int 0, .int 0, .long 0, .long 0, .int 0]))) 115 (.inl (X.2.2.1 1, 40, .inr (.inl (fun _ => 0))))) 116 (.inl (X.2.2.1 1, 40, .inr (.inl (fun _ => 0))))) 117 (.inl (X.2.2.1 1, 40, .inr (.inl (fun _ => 0))))) 118 (.inl (X.2.2.1 1, 40, .inr (.inl (fun _ => 0))))) 119 (.inl (X.2.2.1 1, 40, .inr (.inl (fun _ => 0))))) 120 (.inl (X.2.2.1 1, 760, .inr (.inl (fun _ => 0))))) 121 (.inr (8, [.ref (X.1 + 37), .ref (X.1 + 5), .ref (X.1 + 53), .ref (X.1 + 46), .ref (X.1 + 122), .ref (X.1 + 123), .ref (X.1 + 124), .ref (X.1 + 125), .ref (X.1 + 126), .ref (X.1 + 127), .int 0, .int 0, .long 0, .long 0, .int 0]))) 122 (.inl (X.2.2.1 1, 40, .inr (.inl (fun _ => 0))))) 123 (.inl (X.2.2.1 1, 40, .inr (.inl (fun _ => 0))))) 124 (.inl (X.2.2.1 1, 40, .inr (.inl (fun _ => 0))))) 125 (.inl (X.2.2.1 1, 40, .inr (.inl (fun _ => 0))))) 126 (.inl (X.2.2.1 1, 40, .inr (.inl (fun _ => 0))))) 127 (.inl (X.2.2.1 1, 760, .inr (.inl (fun _ => 0))))) 0 (.inr (11, [.ref (X.1 + 1), .ref (X.1 + 5), .ref (X.1 + 33), .ref (X.1 + 37), .ref (X.1 + 44), .int (-1)])))) := by
  refine zMve.ofI (by decide) (Nat.le_of_ble_eq_true rfl) (fun C E hl hX hQ hin => ?_)
  subst hl
  subst hX
  refine ze_aload_n E dX11_init_0 0 rfl rfl ?_
  refine ze_objinit E zw_26 (by first | decide | simp [Value.category]) (by decide) dX11_init_1 ?_
  refine ze_aload_n E dX11_init_4 0 rfl rfl ?_
  refine ze_iconst E dX11_init_5 (v := (-1)) rfl ?_
  refine ze_put E 0 (by decide) he rfl zin11 5 (by decide) zw_358 tyX11 tyX11_ok nmX11 rfl rfl rfl (Nat.le_of_ble_eq_true rfl) (fs2 := [.null, .null, .null, .null, .null, .int (-1)]) rfl rfl dX11_init_6 ?_
  refine ze_aload_n E dX11_init_9 0 rfl rfl ?_
  refine ze_new E (ci := 3) tyX3 rfl zw_29 zw_30 zw_2 zin3 tyX3_ok (fs := [.null, .null, .null]) (fun j hj => by
    have hj2 : j < 3 := hj
    obtain rfl | rfl | rfl : j = 0 ∨ j = 1 ∨ j = 2 := by omega
    all_goals rfl) ⟨by decide, by decide⟩ (c2 := (1, 3)) rfl (n2 := 2) rfl dX11_init_10 ?_
  refine ze_dup E dX11_init_13 rfl ?_
  refine ze_cINv E [] _ zy_X3_init znw_0 (ce_Counters rfl) ⟨by decide, by decide, by decide, by decide⟩ rfl rfl (by first | decide | simp [Value.category]) dX11_init_14 (cs2 := (4, 42)) rfl ?_
  refine ze_putF E 0 (by decide) rfl rfl zin11 0 (by decide) zw_353 tyX11 tyX11_ok nmX11 rfl hin rfl rfl rfl (Nat.le_of_ble_eq_true rfl) (fs2 := [.ref (C.X.1 + 1), .null, .null, .null, .null, .int (-1)]) rfl rfl dX11_init_17 ?_
  refine ze_aload_n E dX11_init_20 0 rfl rfl ?_
  refine ze_new E (ci := 2) tyX2 rfl zw_46 zw_47 zw_3 zin2 tyX2_ok (fs := [.null, .null, .null, .null, .null, .null, .null, .null, .int 0, .int 0, .int 0, .int 0, .int 0]) (fun j hj => by
    have hj2 : j < 13 := hj
    obtain rfl | rfl | rfl | rfl | rfl | rfl | rfl | rfl | rfl | rfl | rfl | rfl | rfl : j = 0 ∨ j = 1 ∨ j = 2 ∨ j = 3 ∨ j = 4 ∨ j = 5 ∨ j = 6 ∨ j = 7 ∨ j = 8 ∨ j = 9 ∨ j = 10 ∨ j = 11 ∨ j = 12 := by omega
    all_goals rfl) ⟨by decide, by decide⟩ (c2 := (5, 55)) rfl (n2 := 6) rfl dX11_init_21 ?_
  refine ze_dup E dX11_init_24 rfl ?_
  refine ze_cIv E [] _ zy_X2_init zw_48 (ce_Chest rfl) ⟨by decide, by decide, by decide, by decide⟩ rfl rfl (by first | decide | simp [Value.category]) dX11_init_25 (cs2 := (32, 1067)) rfl ?_
  refine ze_putF E 0 (by decide) rfl rfl zin11 1 (by decide) zw_354 tyX11 tyX11_ok nmX11 rfl hin rfl rfl rfl (Nat.le_of_ble_eq_true rfl) (fs2 := [.ref (C.X.1 + 1), .ref (C.X.1 + 5), .null, .null, .null, .int (-1)]) rfl rfl dX11_init_28 ?_
  refine ze_aload_n E dX11_init_31 0 rfl rfl ?_
  refine ze_new E (ci := 7) tyX7 rfl zw_130 zw_131 zw_6 zin7 tyX7_ok (fs := [.null, .null, .null, .int 0, .int 0, .int 0, .int 0, .int 0, .int 0, .int 0, .int 0, .int 0]) (fun j hj => by
    have hj2 : j < 12 := hj
    obtain rfl | rfl | rfl | rfl | rfl | rfl | rfl | rfl | rfl | rfl | rfl | rfl : j = 0 ∨ j = 1 ∨ j = 2 ∨ j = 3 ∨ j = 4 ∨ j = 5 ∨ j = 6 ∨ j = 7 ∨ j = 8 ∨ j = 9 ∨ j = 10 ∨ j = 11 := by omega
    all_goals rfl) ⟨by decide, by decide⟩ (c2 := (33, 1079)) rfl (n2 := 34) rfl dX11_init_32 ?_
  refine ze_dup E dX11_init_35 rfl ?_
  refine ze_cINv E [] _ zy_X7_init znw_2 (ce_Reader rfl) ⟨by decide, by decide, by decide, by decide⟩ rfl rfl (by first | decide | simp [Value.category]) dX11_init_36 (cs2 := (36, 2303)) rfl ?_
  refine ze_putF E 0 (by decide) rfl rfl zin11 2 (by decide) zw_355 tyX11 tyX11_ok nmX11 rfl hin rfl rfl rfl (Nat.le_of_ble_eq_true rfl) (fs2 := [.ref (C.X.1 + 1), .ref (C.X.1 + 5), .ref (C.X.1 + 33), .null, .null, .int (-1)]) rfl rfl dX11_init_39 ?_
  refine ze_aload_n E dX11_init_42 0 rfl rfl ?_
  refine ze_new E (ci := 0) tyX0 rfl zw_176 zw_177 zw_7 zin0 tyX0_ok (fs := [.null, .null, .null, .null, .null, .null, .int 0, .int 0]) (fun j hj => by
    have hj2 : j < 8 := hj
    obtain rfl | rfl | rfl | rfl | rfl | rfl | rfl | rfl : j = 0 ∨ j = 1 ∨ j = 2 ∨ j = 3 ∨ j = 4 ∨ j = 5 ∨ j = 6 ∨ j = 7 := by omega
    all_goals rfl) ⟨by decide, by decide⟩ (c2 := (37, 2311)) rfl (n2 := 38) rfl dX11_init_43 ?_
  refine ze_dup E dX11_init_46 rfl ?_
  refine ze_cINv E [] _ zy_X0_init znw_3 (ce_Acts rfl) ⟨by decide, by decide, by decide, by decide⟩ rfl rfl (by first | decide | simp [Value.category]) dX11_init_47 (cs2 := (43, 3517)) rfl ?_
  refine ze_putF E 0 (by decide) rfl rfl zin11 3 (by decide) zw_356 tyX11 tyX11_ok nmX11 rfl hin rfl rfl rfl (Nat.le_of_ble_eq_true rfl) (fs2 := [.ref (C.X.1 + 1), .ref (C.X.1 + 5), .ref (C.X.1 + 33), .ref (C.X.1 + 37), .null, .int (-1)]) rfl rfl dX11_init_50 ?_
  refine ze_aload_n E dX11_init_53 0 rfl rfl ?_
  refine ze_new E (ci := 1) tyX1 rfl zw_219 zw_220 zw_8 zin1 tyX1_ok (fs := [.null, .null, .null, .null, .null, .null, .null, .int 0, .int 0, .int 0]) (fun j hj => by
    have hj2 : j < 10 := hj
    obtain rfl | rfl | rfl | rfl | rfl | rfl | rfl | rfl | rfl | rfl : j = 0 ∨ j = 1 ∨ j = 2 ∨ j = 3 ∨ j = 4 ∨ j = 5 ∨ j = 6 ∨ j = 7 ∨ j = 8 ∨ j = 9 := by omega
    all_goals rfl) ⟨by decide, by decide⟩ (c2 := (44, 3527)) rfl (n2 := 45) rfl dX11_init_54 ?_
  refine ze_dup E dX11_init_57 rfl ?_
  refine ze_aload_n E dX11_init_58 0 rfl rfl ?_
  refine ze_get E 0 (by decide) rfl rfl zin11 3 (by decide) zw_356 rfl dX11_init_59 ?_
  refine ze_aload_n E dX11_init_62 0 rfl rfl ?_
  refine ze_get E 0 (by decide) rfl rfl zin11 1 (by decide) zw_354 rfl dX11_init_63 ?_
  refine ze_cIv E [.ref (C.X.1 + 37), .ref (C.X.1 + 5)] _ zy_X1_init zw_221 (ce_Audit rfl) ⟨by decide, by decide, by decide, by decide⟩ rfl rfl (by first | decide | simp [Value.category]) dX11_init_66 (cs2 := (127, 14006)) rfl ?_
  refine ze_putF E 0 (by decide) rfl rfl zin11 4 (by decide) zw_357 tyX11 tyX11_ok nmX11 rfl hin rfl rfl rfl (Nat.le_of_ble_eq_true rfl) (fs2 := [.ref (C.X.1 + 1), .ref (C.X.1 + 5), .ref (C.X.1 + 33), .ref (C.X.1 + 37), .ref (C.X.1 + 44), .int (-1)]) rfl rfl dX11_init_69 ?_
  refine ze_S (e2 := (va_up (va_up (va_up (va_up (va_up (va_up (va_up (va_up (va_up (va_up (va_up (va_up (va_up (va_up (va_up (va_up (va_up (va_up (va_up (va_up (va_up (va_up (va_up (va_up (va_up (va_up (va_up (va_up (va_up (va_up (va_up (va_up (va_up (va_up (va_up (va_up (va_up (va_up (va_up (va_up (va_up (va_up (va_up (va_up (va_up (va_up (va_up (va_up (va_up (va_up (va_up (va_up (va_up (va_up (va_up (va_up (va_up (va_up (va_up (va_up (va_up (va_up (va_up (va_up (va_up (va_up (va_up (va_up (va_up (va_up (va_up (va_up (va_up (va_up (va_up (va_up (va_up (va_up (va_up (va_up (va_up (va_up (va_up (va_up (va_up (va_up (va_up (va_up (va_up (va_up (va_up (va_up (va_up (va_up (va_up (va_up (va_up (va_up (va_up (va_up (va_up (va_up (va_up (va_up (va_up (va_up (va_up (va_up (va_up (va_up (va_up (va_up (va_up (va_up (va_up (va_up (va_up (va_up (va_up (va_up (va_up (va_up (va_up (va_up (va_up (va_up (va_up (va_up e 1 (.inr (3, [.ref (C.X.1 + 2), .ref (C.X.1 + 3), .ref (C.X.1 + 4)]))) 2 (.inl (C.X.2.2.1 0, 13, .inl (fun _ => 0)))) 3 (.inl (C.X.2.2.1 0, 13, .inl (fun _ => 0)))) 4 (.inl (C.X.2.2.1 0, 13, .inl (fun _ => 0)))) 5 (.inr (2, [.ref (C.X.1 + 6), .ref (C.X.1 + 7), .ref (C.X.1 + 8), .ref (C.X.1 + 9), .ref (C.X.1 + 10), .ref (C.X.1 + 11), .ref (C.X.1 + 12), .ref (C.X.1 + 13), .int 3, .int 8, .int 20, .int 0, .int 0]))) 6 (.inl (C.X.2.2.1 0, 240, .inl (fun _ => 0)))) 7 (.inl (C.X.2.2.1 0, 240, .inl (fun _ => 0)))) 8 (.inl (C.X.2.2.1 0, 20, .inl (fun _ => 0)))) 9 (.inl (C.X.2.2.1 0, 100, .inl (fun _ => (-2))))) 10 (.inl (C.X.2.2.1 0, 13, .inl (fun _ => 0)))) 11 (.inl (C.X.2.2.1 0, 13, .inl (fun _ => 0)))) 12 (.inl (C.X.2.2.1 0, 10, .inl (fun _ => 0)))) 13 (.inr (6, [.ref (C.X.1 + 14), .ref (C.X.1 + 26), .ref (C.X.1 + 27), .ref (C.X.1 + 28), .ref (C.X.1 + 29), .ref (C.X.1 + 30), .ref (C.X.1 + 31), .ref (C.X.1 + 32)]))) 14 (.inl (C.X.2.2.1 7, 11, .inr (.inr (.inr (.inr (fun i => if i < 11 then some (C.X.1 + (14 + 1 + i)) else none))))))) 15 (.inl (C.X.2.2.1 1, 21, .inr (.inl (fun _ => 0))))) 16 (.inl (C.X.2.2.1 1, 21, .inr (.inl (fun _ => 0))))) 17 (.inl (C.X.2.2.1 1, 21, .inr (.inl (fun _ => 0))))) 18 (.inl (C.X.2.2.1 1, 21, .inr (.inl (fun _ => 0))))) 19 (.inl (C.X.2.2.1 1, 21, .inr (.inl (fun _ => 0))))) 20 (.inl (C.X.2.2.1 1, 21, .inr (.inl (fun _ => 0))))) 21 (.inl (C.X.2.2.1 1, 21, .inr (.inl (fun _ => 0))))) 22 (.inl (C.X.2.2.1 1, 21, .inr (.inl (fun _ => 0))))) 23 (.inl (C.X.2.2.1 1, 21, .inr (.inl (fun _ => 0))))) 24 (.inl (C.X.2.2.1 1, 21, .inr (.inl (fun _ => 0))))) 25 (.inl (C.X.2.2.1 1, 21, .inr (.inl (fun _ => 0))))) 26 (.inl (C.X.2.2.1 1, 11, .inr (.inl (fun _ => 0))))) 27 (.inl (C.X.2.2.1 1, 21, .inr (.inl (fun _ => 0))))) 28 (.inl (C.X.2.2.1 1, 21, .inr (.inl (fun _ => 0))))) 29 (.inl (C.X.2.2.1 0, 21, .inl (fun _ => 0)))) 30 (.inl (C.X.2.2.1 0, 21, .inl (fun _ => 0)))) 31 (.inl (C.X.2.2.1 3, 21, .inl (fun _ => 0)))) 32 (.inl (C.X.2.2.1 0, 10, .inl (fun _ => 0)))) 33 (.inr (7, [.ref (C.X.1 + 34), .ref (C.X.1 + 35), .ref (C.X.1 + 36), .int 0, .int 0, .int 0, .int 0, .int 0, .int 0, .int 0, .int 0, .int (-1)]))) 34 (.inl (C.X.2.2.1 2, 600, .inl (fun _ => 0)))) 35 (.inl (C.X.2.2.1 0, 600, .inl (fun _ => 0)))) 36 (.inl (C.X.2.2.1 5, 24, .inr (.inr (.inr (.inr (fun _ => none))))))) 37 (.inr (0, [.ref (C.X.1 + 38), .ref (C.X.1 + 39), .ref (C.X.1 + 40), .ref (C.X.1 + 41), .ref (C.X.1 + 42), .ref (C.X.1 + 43), .int 0, .int 0]))) 38 (.inl (C.X.2.2.1 0, 201, .inl (fun _ => 0)))) 39 (.inl (C.X.2.2.1 0, 201, .inl (fun _ => 0)))) 40 (.inl (C.X.2.2.1 0, 201, .inl (fun _ => 0)))) 41 (.inl (C.X.2.2.1 0, 201, .inl (fun _ => 0)))) 42 (.inl (C.X.2.2.1 0, 201, .inl (fun _ => 0)))) 43 (.inl (C.X.2.2.1 6, 201, .inr (.inr (.inr (.inr (fun _ => none))))))) 44 (.inr (1, [.ref (C.X.1 + 37), .ref (C.X.1 + 5), .ref (C.X.1 + 48), .ref (C.X.1 + 53), .ref (C.X.1 + 45), .ref (C.X.1 + 114), .ref (C.X.1 + 121), .int (-1), .int (-1), .int (-1)]))) 45 (.inl (C.X.2.2.1 4, 8, .inr (.inr (.inr (.inr (va_up (va_up (va_up (va_up (va_up (va_up (va_up (va_up (fun _ => none) 0 (some (C.X.1 + 58))) 1 (some (C.X.1 + 65))) 2 (some (C.X.1 + 72))) 3 (some (C.X.1 + 79))) 4 (some (C.X.1 + 86))) 5 (some (C.X.1 + 93))) 6 (some (C.X.1 + 100))) 7 (some (C.X.1 + 107))))))))) 46 (.inr (4, [.ref (C.X.1 + 47), .int 0, .int 0, .long 0, .long 0]))) 47 (.inl (C.X.2.2.1 1, 64, .inr (.inl (fun _ => 0))))) 48 (.inr (5, [.ref (C.X.1 + 37), .ref (C.X.1 + 49), .ref (C.X.1 + 50), .ref (C.X.1 + 51), .ref (C.X.1 + 52)]))) 49 (.inl (C.X.2.2.1 0, 40, .inl (fun _ => 0)))) 50 (.inl (C.X.2.2.1 0, 40, .inl (fun _ => 0)))) 51 (.inl (C.X.2.2.1 0, 40, .inl (fun _ => 0)))) 52 (.inl (C.X.2.2.1 0, 201, .inl (fun _ => 0)))) 53 (.inr (5, [.ref (C.X.1 + 37), .ref (C.X.1 + 54), .ref (C.X.1 + 55), .ref (C.X.1 + 56), .ref (C.X.1 + 57)]))) 54 (.inl (C.X.2.2.1 0, 40, .inl (fun _ => 0)))) 55 (.inl (C.X.2.2.1 0, 40, .inl (fun _ => 0)))) 56 (.inl (C.X.2.2.1 0, 40, .inl (fun _ => 0)))) 57 (.inl (C.X.2.2.1 0, 201, .inl (fun _ => 0)))) 58 (.inr (8, [.ref (C.X.1 + 37), .ref (C.X.1 + 5), .ref (C.X.1 + 48), .ref (C.X.1 + 46), .ref (C.X.1 + 59), .ref (C.X.1 + 60), .ref (C.X.1 + 61), .ref (C.X.1 + 62), .ref (C.X.1 + 63), .ref (C.X.1 + 64), .int 0, .int 0, .long 0, .long 0, .int 0]))) 59 (.inl (C.X.2.2.1 1, 40, .inr (.inl (fun _ => 0))))) 60 (.inl (C.X.2.2.1 1, 40, .inr (.inl (fun _ => 0))))) 61 (.inl (C.X.2.2.1 1, 40, .inr (.inl (fun _ => 0))))) 62 (.inl (C.X.2.2.1 1, 40, .inr (.inl (fun _ => 0))))) 63 (.inl (C.X.2.2.1 1, 40, .inr (.inl (fun _ => 0))))) 64 (.inl (C.X.2.2.1 1, 760, .inr (.inl (fun _ => 0))))) 65 (.inr (8, [.ref (C.X.1 + 37), .ref (C.X.1 + 5), .ref (C.X.1 + 48), .ref (C.X.1 + 46), .ref (C.X.1 + 66), .ref (C.X.1 + 67), .ref (C.X.1 + 68), .ref (C.X.1 + 69), .ref (C.X.1 + 70), .ref (C.X.1 + 71), .int 0, .int 0, .long 0, .long 0, .int 0]))) 66 (.inl (C.X.2.2.1 1, 40, .inr (.inl (fun _ => 0))))) 67 (.inl (C.X.2.2.1 1, 40, .inr (.inl (fun _ => 0))))) 68 (.inl (C.X.2.2.1 1, 40, .inr (.inl (fun _ => 0))))) 69 (.inl (C.X.2.2.1 1, 40, .inr (.inl (fun _ => 0))))) 70 (.inl (C.X.2.2.1 1, 40, .inr (.inl (fun _ => 0))))) 71 (.inl (C.X.2.2.1 1, 760, .inr (.inl (fun _ => 0))))) 72 (.inr (8, [.ref (C.X.1 + 37), .ref (C.X.1 + 5), .ref (C.X.1 + 48), .ref (C.X.1 + 46), .ref (C.X.1 + 73), .ref (C.X.1 + 74), .ref (C.X.1 + 75), .ref (C.X.1 + 76), .ref (C.X.1 + 77), .ref (C.X.1 + 78), .int 0, .int 0, .long 0, .long 0, .int 0]))) 73 (.inl (C.X.2.2.1 1, 40, .inr (.inl (fun _ => 0))))) 74 (.inl (C.X.2.2.1 1, 40, .inr (.inl (fun _ => 0))))) 75 (.inl (C.X.2.2.1 1, 40, .inr (.inl (fun _ => 0))))) 76 (.inl (C.X.2.2.1 1, 40, .inr (.inl (fun _ => 0))))) 77 (.inl (C.X.2.2.1 1, 40, .inr (.inl (fun _ => 0))))) 78 (.inl (C.X.2.2.1 1, 760, .inr (.inl (fun _ => 0))))) 79 (.inr (8, [.ref (C.X.1 + 37), .ref (C.X.1 + 5), .ref (C.X.1 + 48), .ref (C.X.1 + 46), .ref (C.X.1 + 80), .ref (C.X.1 + 81), .ref (C.X.1 + 82), .ref (C.X.1 + 83), .ref (C.X.1 + 84), .ref (C.X.1 + 85), .int 0, .int 0, .long 0, .long 0, .int 0]))) 80 (.inl (C.X.2.2.1 1, 40, .inr (.inl (fun _ => 0))))) 81 (.inl (C.X.2.2.1 1, 40, .inr (.inl (fun _ => 0))))) 82 (.inl (C.X.2.2.1 1, 40, .inr (.inl (fun _ => 0))))) 83 (.inl (C.X.2.2.1 1, 40, .inr (.inl (fun _ => 0))))) 84 (.inl (C.X.2.2.1 1, 40, .inr (.inl (fun _ => 0))))) 85 (.inl (C.X.2.2.1 1, 760, .inr (.inl (fun _ => 0))))) 86 (.inr (8, [.ref (C.X.1 + 37), .ref (C.X.1 + 5), .ref (C.X.1 + 48), .ref (C.X.1 + 46), .ref (C.X.1 + 87), .ref (C.X.1 + 88), .ref (C.X.1 + 89), .ref (C.X.1 + 90), .ref (C.X.1 + 91), .ref (C.X.1 + 92), .int 0, .int 0, .long 0, .long 0, .int 0]))) 87 (.inl (C.X.2.2.1 1, 40, .inr (.inl (fun _ => 0))))) 88 (.inl (C.X.2.2.1 1, 40, .inr (.inl (fun _ => 0))))) 89 (.inl (C.X.2.2.1 1, 40, .inr (.inl (fun _ => 0))))) 90 (.inl (C.X.2.2.1 1, 40, .inr (.inl (fun _ => 0))))) 91 (.inl (C.X.2.2.1 1, 40, .inr (.inl (fun _ => 0))))) 92 (.inl (C.X.2.2.1 1, 760, .inr (.inl (fun _ => 0))))) 93 (.inr (8, [.ref (C.X.1 + 37), .ref (C.X.1 + 5), .ref (C.X.1 + 48), .ref (C.X.1 + 46), .ref (C.X.1 + 94), .ref (C.X.1 + 95), .ref (C.X.1 + 96), .ref (C.X.1 + 97), .ref (C.X.1 + 98), .ref (C.X.1 + 99), .int 0, .int 0, .long 0, .long 0, .int 0]))) 94 (.inl (C.X.2.2.1 1, 40, .inr (.inl (fun _ => 0))))) 95 (.inl (C.X.2.2.1 1, 40, .inr (.inl (fun _ => 0))))) 96 (.inl (C.X.2.2.1 1, 40, .inr (.inl (fun _ => 0))))) 97 (.inl (C.X.2.2.1 1, 40, .inr (.inl (fun _ => 0))))) 98 (.inl (C.X.2.2.1 1, 40, .inr (.inl (fun _ => 0))))) 99 (.inl (C.X.2.2.1 1, 760, .inr (.inl (fun _ => 0))))) 100 (.inr (8, [.ref (C.X.1 + 37), .ref (C.X.1 + 5), .ref (C.X.1 + 48), .ref (C.X.1 + 46), .ref (C.X.1 + 101), .ref (C.X.1 + 102), .ref (C.X.1 + 103), .ref (C.X.1 + 104), .ref (C.X.1 + 105), .ref (C.X.1 + 106), .int 0, .int 0, .long 0, .long 0, .int 0]))) 101 (.inl (C.X.2.2.1 1, 40, .inr (.inl (fun _ => 0))))) 102 (.inl (C.X.2.2.1 1, 40, .inr (.inl (fun _ => 0))))) 103 (.inl (C.X.2.2.1 1, 40, .inr (.inl (fun _ => 0))))) 104 (.inl (C.X.2.2.1 1, 40, .inr (.inl (fun _ => 0))))) 105 (.inl (C.X.2.2.1 1, 40, .inr (.inl (fun _ => 0))))) 106 (.inl (C.X.2.2.1 1, 760, .inr (.inl (fun _ => 0))))) 107 (.inr (8, [.ref (C.X.1 + 37), .ref (C.X.1 + 5), .ref (C.X.1 + 48), .ref (C.X.1 + 46), .ref (C.X.1 + 108), .ref (C.X.1 + 109), .ref (C.X.1 + 110), .ref (C.X.1 + 111), .ref (C.X.1 + 112), .ref (C.X.1 + 113), .int 0, .int 0, .long 0, .long 0, .int 0]))) 108 (.inl (C.X.2.2.1 1, 40, .inr (.inl (fun _ => 0))))) 109 (.inl (C.X.2.2.1 1, 40, .inr (.inl (fun _ => 0))))) 110 (.inl (C.X.2.2.1 1, 40, .inr (.inl (fun _ => 0))))) 111 (.inl (C.X.2.2.1 1, 40, .inr (.inl (fun _ => 0))))) 112 (.inl (C.X.2.2.1 1, 40, .inr (.inl (fun _ => 0))))) 113 (.inl (C.X.2.2.1 1, 760, .inr (.inl (fun _ => 0))))) 114 (.inr (8, [.ref (C.X.1 + 37), .ref (C.X.1 + 5), .ref (C.X.1 + 53), .ref (C.X.1 + 46), .ref (C.X.1 + 115), .ref (C.X.1 + 116), .ref (C.X.1 + 117), .ref (C.X.1 + 118), .ref (C.X.1 + 119), .ref (C.X.1 + 120), .int 0, .int 0, .long 0, .long 0, .int 0]))) 115 (.inl (C.X.2.2.1 1, 40, .inr (.inl (fun _ => 0))))) 116 (.inl (C.X.2.2.1 1, 40, .inr (.inl (fun _ => 0))))) 117 (.inl (C.X.2.2.1 1, 40, .inr (.inl (fun _ => 0))))) 118 (.inl (C.X.2.2.1 1, 40, .inr (.inl (fun _ => 0))))) 119 (.inl (C.X.2.2.1 1, 40, .inr (.inl (fun _ => 0))))) 120 (.inl (C.X.2.2.1 1, 760, .inr (.inl (fun _ => 0))))) 121 (.inr (8, [.ref (C.X.1 + 37), .ref (C.X.1 + 5), .ref (C.X.1 + 53), .ref (C.X.1 + 46), .ref (C.X.1 + 122), .ref (C.X.1 + 123), .ref (C.X.1 + 124), .ref (C.X.1 + 125), .ref (C.X.1 + 126), .ref (C.X.1 + 127), .int 0, .int 0, .long 0, .long 0, .int 0]))) 122 (.inl (C.X.2.2.1 1, 40, .inr (.inl (fun _ => 0))))) 123 (.inl (C.X.2.2.1 1, 40, .inr (.inl (fun _ => 0))))) 124 (.inl (C.X.2.2.1 1, 40, .inr (.inl (fun _ => 0))))) 125 (.inl (C.X.2.2.1 1, 40, .inr (.inl (fun _ => 0))))) 126 (.inl (C.X.2.2.1 1, 40, .inr (.inl (fun _ => 0))))) 127 (.inl (C.X.2.2.1 1, 760, .inr (.inl (fun _ => 0))))) 0 (.inr (11, [.ref (C.X.1 + 1), .ref (C.X.1 + 5), .ref (C.X.1 + 33), .ref (C.X.1 + 37), .ref (C.X.1 + 44), .int (-1)])))) (by
    funext i
    by_cases h1 : i = 1
    · subst h1
      rfl
    by_cases h2 : i = 2
    · subst h2
      rfl
    by_cases h3 : i = 3
    · subst h3
      rfl
    by_cases h4 : i = 4
    · subst h4
      rfl
    by_cases h5 : i = 5
    · subst h5
      rfl
    by_cases h6 : i = 6
    · subst h6
      rfl
    by_cases h7 : i = 7
    · subst h7
      rfl
    by_cases h8 : i = 8
    · subst h8
      rfl
    by_cases h9 : i = 9
    · subst h9
      rfl
    by_cases h10 : i = 10
    · subst h10
      rfl
    by_cases h11 : i = 11
    · subst h11
      rfl
    by_cases h12 : i = 12
    · subst h12
      rfl
    by_cases h13 : i = 13
    · subst h13
      rfl
    by_cases h14 : i = 14
    · subst h14
      rfl
    by_cases h15 : i = 15
    · subst h15
      rfl
    by_cases h16 : i = 16
    · subst h16
      rfl
    by_cases h17 : i = 17
    · subst h17
      rfl
    by_cases h18 : i = 18
    · subst h18
      rfl
    by_cases h19 : i = 19
    · subst h19
      rfl
    by_cases h20 : i = 20
    · subst h20
      rfl
    by_cases h21 : i = 21
    · subst h21
      rfl
    by_cases h22 : i = 22
    · subst h22
      rfl
    by_cases h23 : i = 23
    · subst h23
      rfl
    by_cases h24 : i = 24
    · subst h24
      rfl
    by_cases h25 : i = 25
    · subst h25
      rfl
    by_cases h26 : i = 26
    · subst h26
      rfl
    by_cases h27 : i = 27
    · subst h27
      rfl
    by_cases h28 : i = 28
    · subst h28
      rfl
    by_cases h29 : i = 29
    · subst h29
      rfl
    by_cases h30 : i = 30
    · subst h30
      rfl
    by_cases h31 : i = 31
    · subst h31
      rfl
    by_cases h32 : i = 32
    · subst h32
      rfl
    by_cases h33 : i = 33
    · subst h33
      rfl
    by_cases h34 : i = 34
    · subst h34
      rfl
    by_cases h35 : i = 35
    · subst h35
      rfl
    by_cases h36 : i = 36
    · subst h36
      rfl
    by_cases h37 : i = 37
    · subst h37
      rfl
    by_cases h38 : i = 38
    · subst h38
      rfl
    by_cases h39 : i = 39
    · subst h39
      rfl
    by_cases h40 : i = 40
    · subst h40
      rfl
    by_cases h41 : i = 41
    · subst h41
      rfl
    by_cases h42 : i = 42
    · subst h42
      rfl
    by_cases h43 : i = 43
    · subst h43
      rfl
    by_cases h44 : i = 44
    · subst h44
      rfl
    by_cases h45 : i = 45
    · subst h45
      rfl
    by_cases h46 : i = 46
    · subst h46
      rfl
    by_cases h47 : i = 47
    · subst h47
      rfl
    by_cases h48 : i = 48
    · subst h48
      rfl
    by_cases h49 : i = 49
    · subst h49
      rfl
    by_cases h50 : i = 50
    · subst h50
      rfl
    by_cases h51 : i = 51
    · subst h51
      rfl
    by_cases h52 : i = 52
    · subst h52
      rfl
    by_cases h53 : i = 53
    · subst h53
      rfl
    by_cases h54 : i = 54
    · subst h54
      rfl
    by_cases h55 : i = 55
    · subst h55
      rfl
    by_cases h56 : i = 56
    · subst h56
      rfl
    by_cases h57 : i = 57
    · subst h57
      rfl
    by_cases h58 : i = 58
    · subst h58
      rfl
    by_cases h59 : i = 59
    · subst h59
      rfl
    by_cases h60 : i = 60
    · subst h60
      rfl
    by_cases h61 : i = 61
    · subst h61
      rfl
    by_cases h62 : i = 62
    · subst h62
      rfl
    by_cases h63 : i = 63
    · subst h63
      rfl
    by_cases h64 : i = 64
    · subst h64
      rfl
    by_cases h65 : i = 65
    · subst h65
      rfl
    by_cases h66 : i = 66
    · subst h66
      rfl
    by_cases h67 : i = 67
    · subst h67
      rfl
    by_cases h68 : i = 68
    · subst h68
      rfl
    by_cases h69 : i = 69
    · subst h69
      rfl
    by_cases h70 : i = 70
    · subst h70
      rfl
    by_cases h71 : i = 71
    · subst h71
      rfl
    by_cases h72 : i = 72
    · subst h72
      rfl
    by_cases h73 : i = 73
    · subst h73
      rfl
    by_cases h74 : i = 74
    · subst h74
      rfl
    by_cases h75 : i = 75
    · subst h75
      rfl
    by_cases h76 : i = 76
    · subst h76
      rfl
    by_cases h77 : i = 77
    · subst h77
      rfl
    by_cases h78 : i = 78
    · subst h78
      rfl
    by_cases h79 : i = 79
    · subst h79
      rfl
    by_cases h80 : i = 80
    · subst h80
      rfl
    by_cases h81 : i = 81
    · subst h81
      rfl
    by_cases h82 : i = 82
    · subst h82
      rfl
    by_cases h83 : i = 83
    · subst h83
      rfl
    by_cases h84 : i = 84
    · subst h84
      rfl
    by_cases h85 : i = 85
    · subst h85
      rfl
    by_cases h86 : i = 86
    · subst h86
      rfl
    by_cases h87 : i = 87
    · subst h87
      rfl
    by_cases h88 : i = 88
    · subst h88
      rfl
    by_cases h89 : i = 89
    · subst h89
      rfl
    by_cases h90 : i = 90
    · subst h90
      rfl
    by_cases h91 : i = 91
    · subst h91
      rfl
    by_cases h92 : i = 92
    · subst h92
      rfl
    by_cases h93 : i = 93
    · subst h93
      rfl
    by_cases h94 : i = 94
    · subst h94
      rfl
    by_cases h95 : i = 95
    · subst h95
      rfl
    by_cases h96 : i = 96
    · subst h96
      rfl
    by_cases h97 : i = 97
    · subst h97
      rfl
    by_cases h98 : i = 98
    · subst h98
      rfl
    by_cases h99 : i = 99
    · subst h99
      rfl
    by_cases h100 : i = 100
    · subst h100
      rfl
    by_cases h101 : i = 101
    · subst h101
      rfl
    by_cases h102 : i = 102
    · subst h102
      rfl
    by_cases h103 : i = 103
    · subst h103
      rfl
    by_cases h104 : i = 104
    · subst h104
      rfl
    by_cases h105 : i = 105
    · subst h105
      rfl
    by_cases h106 : i = 106
    · subst h106
      rfl
    by_cases h107 : i = 107
    · subst h107
      rfl
    by_cases h108 : i = 108
    · subst h108
      rfl
    by_cases h109 : i = 109
    · subst h109
      rfl
    by_cases h110 : i = 110
    · subst h110
      rfl
    by_cases h111 : i = 111
    · subst h111
      rfl
    by_cases h112 : i = 112
    · subst h112
      rfl
    by_cases h113 : i = 113
    · subst h113
      rfl
    by_cases h114 : i = 114
    · subst h114
      rfl
    by_cases h115 : i = 115
    · subst h115
      rfl
    by_cases h116 : i = 116
    · subst h116
      rfl
    by_cases h117 : i = 117
    · subst h117
      rfl
    by_cases h118 : i = 118
    · subst h118
      rfl
    by_cases h119 : i = 119
    · subst h119
      rfl
    by_cases h120 : i = 120
    · subst h120
      rfl
    by_cases h121 : i = 121
    · subst h121
      rfl
    by_cases h122 : i = 122
    · subst h122
      rfl
    by_cases h123 : i = 123
    · subst h123
      rfl
    by_cases h124 : i = 124
    · subst h124
      rfl
    by_cases h125 : i = 125
    · subst h125
      rfl
    by_cases h126 : i = 126
    · subst h126
      rfl
    by_cases h127 : i = 127
    · subst h127
      rfl
    by_cases h0 : i = 0
    · subst h0
      rfl
    simp only [va_up, h1, h2, h3, h4, h5, h6, h7, h8, h9, h10, h11, h12, h13, h14, h15, h16, h17, h18, h19, h20, h21, h22, h23, h24, h25, h26, h27, h28, h29, h30, h31, h32, h33, h34, h35, h36, h37, h38, h39, h40, h41, h42, h43, h44, h45, h46, h47, h48, h49, h50, h51, h52, h53, h54, h55, h56, h57, h58, h59, h60, h61, h62, h63, h64, h65, h66, h67, h68, h69, h70, h71, h72, h73, h74, h75, h76, h77, h78, h79, h80, h81, h82, h83, h84, h85, h86, h87, h88, h89, h90, h91, h92, h93, h94, h95, h96, h97, h98, h99, h100, h101, h102, h103, h104, h105, h106, h107, h108, h109, h110, h111, h112, h113, h114, h115, h116, h117, h118, h119, h120, h121, h122, h123, h124, h125, h126, h127, h0, if_false]) ?_
  exact ze_vret E hQ rfl ⟨by decide, by decide⟩ dX11_init_72
