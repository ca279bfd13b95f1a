set_option maxHeartbeats 4000000
set_option maxRecDepth 100000
theorem zy_X11_initL : zYi yX11_init cX11_init 1 0 := ⟨zw_24, rfl, zw_1, zw_25, by decide, by decide, by decide⟩
theorem law_ctor {C : zC} {b L : Nat} {xs : Nat → Int32} (E : zEe C R_law code 4 ret room_1) (hc : zSc C b L xs) (hL : L ≤ 3072) (hQ : C.Q = lw_Z C.below #[Value.ref b] C.s) (hA : C.args = #[Value.ref b]) : zBe C (0, 0) 0 [(0, .ref b)] [] (0, eN) := by
  refine ze_new E (ci := 11) tyX11 rfl zw_21 zw_22 zw_1 zin11 tyX11_ok (fs := [.null, .null, .null, .null, .null, .int 0]) (fun j hj => by
    have hj2 : j < 6 := hj
    obtain rfl | rfl | rfl | rfl | rfl | rfl : j = 0 ∨ j = 1 ∨ j = 2 ∨ j = 3 ∨ j = 4 ∨ j = 5 := by omega
    all_goals rfl) ⟨Nat.le_of_ble_eq_true rfl, Nat.le_of_ble_eq_true rfl⟩ (c2 := (1, 6)) rfl (n2 := 1) rfl dl_0 ?_
  refine ze_dup E dl_3 rfl ?_
  refine ze_cIv E [] _ zy_X11_initL zw_23 (ce_Cloth rfl) ⟨by decide, by decide, by show 1 + 127 ≤ 600000; omega, by show 6 + 14006 ≤ 7302249; omega⟩ rfl rfl (by first | decide | simp [Value.category]) dl_4 (cs2 := (128, 14012)) rfl ?_
  refine ze_astore_n E dl_7 rfl (by decide) (lv2 := [(1, .ref (C.X.1 + 0)), (0, .ref b)]) rfl ?_
  refine ze_S (e2 := e2 C.X) rfl ?_
  refine ze_new E (ci := 12) tyX12 rfl zw_1160 zw_1161 zw_12 zin12 tyX12_ok (fs := [.null, .null, .null, .null, .null, .null, .null, .null, .null, .null, .int 0, .int 0, .int 0, .null, .null, .null, .null, .null, .int 0, .int 0, .int 0, .int 0, .int 0, .int 0, .int 0, .int 0, .null, .null, .null, .null, .null, .null, .null, .null, .null, .null, .null, .null, .null, .null, .null, .null, .null, .null, .null, .null, .null, .null, .null, .null, .null, .null, .null, .null, .null, .null, .int 0, .null, .int 0, .int 0, .int 0, .null, .int 0, .long 0, .long 0, .int 0, .int 0, .int 0, .null, .null, .null, .null, .null, .int 0, .int 0, .int 0, .int 0, .int 0, .null, .long 0, .long 0, .long 0, .long 0, .int 0, .int 0]) (fun j hj => by
    have hj2 : j < 85 := hj
    obtain rfl | rfl | rfl | rfl | rfl | rfl | rfl | rfl | rfl | rfl | rfl | rfl | rfl | rfl | rfl | rfl | rfl | rfl | rfl | rfl | rfl | rfl | rfl | rfl | rfl | rfl | rfl | rfl | rfl | rfl | rfl | rfl | rfl | rfl | rfl | rfl | rfl | rfl | rfl | rfl | rfl | rfl | rfl | rfl | rfl | rfl | rfl | rfl | rfl | rfl | rfl | rfl | rfl | rfl | rfl | rfl | rfl | rfl | rfl | rfl | rfl | rfl | rfl | rfl | rfl | rfl | rfl | rfl | rfl | rfl | rfl | rfl | rfl | rfl | rfl | rfl | rfl | rfl | rfl | rfl | rfl | rfl | rfl | rfl | rfl : j = 0 ∨ j = 1 ∨ j = 2 ∨ j = 3 ∨ j = 4 ∨ j = 5 ∨ j = 6 ∨ j = 7 ∨ j = 8 ∨ j = 9 ∨ j = 10 ∨ j = 11 ∨ j = 12 ∨ j = 13 ∨ j = 14 ∨ j = 15 ∨ j = 16 ∨ j = 17 ∨ j = 18 ∨ j = 19 ∨ j = 20 ∨ j = 21 ∨ j = 22 ∨ j = 23 ∨ j = 24 ∨ j = 25 ∨ j = 26 ∨ j = 27 ∨ j = 28 ∨ j = 29 ∨ j = 30 ∨ j = 31 ∨ j = 32 ∨ j = 33 ∨ j = 34 ∨ j = 35 ∨ j = 36 ∨ j = 37 ∨ j = 38 ∨ j = 39 ∨ j = 40 ∨ j = 41 ∨ j = 42 ∨ j = 43 ∨ j = 44 ∨ j = 45 ∨ j = 46 ∨ j = 47 ∨ j = 48 ∨ j = 49 ∨ j = 50 ∨ j = 51 ∨ j = 52 ∨ j = 53 ∨ j = 54 ∨ j = 55 ∨ j = 56 ∨ j = 57 ∨ j = 58 ∨ j = 59 ∨ j = 60 ∨ j = 61 ∨ j = 62 ∨ j = 63 ∨ j = 64 ∨ j = 65 ∨ j = 66 ∨ j = 67 ∨ j = 68 ∨ j = 69 ∨ j = 70 ∨ j = 71 ∨ j = 72 ∨ j = 73 ∨ j = 74 ∨ j = 75 ∨ j = 76 ∨ j = 77 ∨ j = 78 ∨ j = 79 ∨ j = 80 ∨ j = 81 ∨ j = 82 ∨ j = 83 ∨ j = 84 := by omega
    all_goals rfl) ⟨Nat.le_of_ble_eq_true rfl, Nat.le_of_ble_eq_true rfl⟩ (c2 := (129, 14097)) rfl (n2 := 129) rfl dl_8 ?_
  refine ze_S (e2 := e3 C.X) rfl ?_
  refine ze_dup E dl_11 rfl ?_
  refine ze_cIv E [] _ zy_X12_init zw_1162 (ce_Model rfl) ⟨by decide, by decide, by show 129 + 53 ≤ 600000; omega, by show 14097 + 179067 ≤ 7302249; omega⟩ rfl rfl (by first | decide | simp [Value.category]) dl_12 (cs2 := (182, 193164)) rfl ?_
  refine ze_S (e2 := e9 C.X) rfl ?_
  refine ze_astore_n E dl_15 rfl (by decide) (lv2 := [(2, .ref (C.X.1 + 128)), (1, .ref (C.X.1 + 0)), (0, .ref b)]) rfl ?_
  refine ze_iconst E dl_16 (v := nI 0) rfl ?_
  refine ze_istore_n E dl_17 rfl (by decide) (lv2 := [(3, .int (nI 0)), (2, .ref (C.X.1 + 128)), (1, .ref (C.X.1 + 0)), (0, .ref b)]) rfl ?_
  refine ze_sub [0, 3, 2, 1] rfl ?_
  refine zb_of_e ?_
  exact law_loop (c0 := 182) (s0 := 193164) E.1 hc hL hQ hA (Nat.le_of_ble_eq_true rfl) (Nat.le_of_ble_eq_true rfl) 513 0 _ (Nat.zero_le _) (by omega) (inv0 C.X)
theorem whole_start {p : Program} {e : Jvm.Env} {s : State} {m : MethodId} {below : List Frame} {meth : Method} {c : Code} (l : Launch) (hflags : l.flags = flags0) {b L : Nat} {xs : Nat → Int32} (hL : L ≤ 3072) (C0 : lw_At p s m meth c b L xs) : W p l e room_1 s m #[Value.ref b] below meth c s.heap [] 0 0 (lw_Z below #[Value.ref b] s) (entryFrame m ([Value.ref b] : List Value).toArray 4) := by
  obtain ⟨hx, hb, hr, hml, hown, hts, hX, hbl, hlocks, hgv⟩ := id C0
  obtain ⟨X, hX1, hK⟩ := st_all hts hgv
  have E : zEe (p, l, e, room_1, s, m, #[Value.ref b], below, meth, c, lw_Z below #[Value.ref b] s, X, 4) R_law code 4 ret room_1 := ⟨⟨hx, hb, hml, rfl, hown, fun w hw => hts w (List.mem_filter.mp hw).1, hr, hlocks, rfl, hK.1⟩, hK.2⟩
  have key := law_ctor (C := (p, l, e, room_1, s, m, #[Value.ref b], below, meth, c, lw_Z below #[Value.ref b] s, X, 4)) (xs := xs) E ⟨hX, hbl, hX1⟩ hL rfl rfl
  have hl := lv_entry ([.ref b]) (n := 4) (Nat.le_of_ble_eq_true rfl)
  rw [lg_entry_eq]
  exact key s.heap [] _ hl ⟨hX1.symm, fun k hk => absurd hk (Nat.not_lt_zero k)⟩ va_S.rf
