set_option maxHeartbeats 4000000
set_option maxRecDepth 100000
-- ChequeredClothModel.takes
theorem dX12_takes_0 : decode cX12_takes 0 = .ok (.aload_n 0, 1) := by decide +kernel
theorem dX12_takes_1 : decode cX12_takes 1 = .ok (.aload_n 1, 1) := by decide +kernel
theorem dX12_takes_2 : decode cX12_takes 2 = .ok (.invokevirtual 297, 3) := by decide +kernel
theorem dX12_takes_5 : decode cX12_takes 5 = .ok (.ifCond .ne 5, 3) := by decide +kernel
theorem dX12_takes_8 : decode cX12_takes 8 = .ok (.iconst 0, 1) := by decide +kernel
theorem dX12_takes_9 : decode cX12_takes 9 = .ok (.ireturn, 1) := by decide +kernel
theorem dX12_takes_10 : decode cX12_takes 10 = .ok (.aload_n 0, 1) := by decide +kernel
theorem dX12_takes_11 : decode cX12_takes 11 = .ok (.dup, 1) := by decide +kernel
theorem dX12_takes_12 : decode cX12_takes 12 = .ok (.getfield 281, 3) := by decide +kernel
theorem dX12_takes_15 : decode cX12_takes 15 = .ok (.aload_n 1, 1) := by decide +kernel
theorem dX12_takes_16 : decode cX12_takes 16 = .ok (.arraylength, 1) := by decide +kernel
theorem dX12_takes_17 : decode cX12_takes 17 = .ok (.iadd, 1) := by decide +kernel
theorem dX12_takes_18 : decode cX12_takes 18 = .ok (.putfield 281, 3) := by decide +kernel
theorem dX12_takes_21 : decode cX12_takes 21 = .ok (.aload_n 0, 1) := by decide +kernel
theorem dX12_takes_22 : decode cX12_takes 22 = .ok (.aload_n 0, 1) := by decide +kernel
theorem dX12_takes_23 : decode cX12_takes 23 = .ok (.getfield 281, 3) := by decide +kernel
theorem dX12_takes_26 : decode cX12_takes 26 = .ok (.putfield 294, 3) := by decide +kernel
theorem dX12_takes_29 : decode cX12_takes 29 = .ok (.iconst 1, 1) := by decide +kernel
theorem dX12_takes_30 : decode cX12_takes 30 = .ok (.ireturn, 1) := by decide +kernel
theorem zy_X12_takes : zYv yX12_takes cX12_takes 2 (some .boolean) 1 := ⟨zw_1583, zws_59, zw_12, zw_1584, by decide, by decide, by decide⟩
theorem c_X12_takes_0 {C : zC} {I : Nat → Nat → Int32} {J : Nat → Nat → Int64} {Rr : Nat → Nat → Option Nat} {D : zD} (N : Nat) (n_a1 : Nat) (ka1 : Nat) (hka1 : ka1 < 182) (hFa1 : ∀ (X : zX) (i : Nat → Int32) (j : Nat → Int64) (r : Nat → Option Nat), zF X ka1 i j r = .inl (X.2.2.1 2, n_a1, .inl i)) (hna1 : ka1 ≠ 128) (v_a1 : (Nat → Int32)) (e_v_a1 : I ka1 = v_a1) (v_bad : Int32) (e_v_bad : I 128 22 = v_bad) (v_end : Int32) (e_v_end : I 128 20 = v_end) (v_tape : (Nat → Int32)) (e_v_tape : I 143 = v_tape) (rr : Int32) (y_v_at : Int32) (y_v_ended : Int32) (E : zE C RX12 cX12_takes 2 (some .boolean) ({ frames := 2, cells := 0, slots := 0, locals := 43 } : Room)) (hQ : C.Q = zQi C ({ frames := 2, cells := 0, slots := 0, locals := 43 } : Room) rr ((va_up I 128 (va_up (va_up (I 128) 19 y_v_at) 21 y_v_ended)), J, Rr, D)) (v_at : Int32) (v_ended : Int32) (h : pM_takes N n_a1 v_a1 v_at v_bad v_end v_ended v_tape = some (rr, y_v_at, y_v_ended)) : zB C (0, 0) 0 [(0, .ref (C.X.1 + 128)), (1, .ref (C.X.1 + ka1))] [] ((va_up I 128 (va_up (va_up (I 128) 19 v_at) 21 v_ended)), J, Rr, D) := by
  refine zb_aload_n E dX12_takes_0 0 rfl rfl ?_
  refine zb_aload_n E dX12_takes_1 1 rfl rfl ?_
  obtain ⟨rc1, v_at_c1, hc_2, h⟩ := bd2_s h
  refine zb_cVi E [.ref (C.X.1 + ka1)] 128 zy_X12_isHere zw_1585 (by decide) (zF_128 _ _ _ _) rfl (c_X12_isHere ka1 hka1 hFa1 hna1 (va_up (va_up (I 128) 19 v_at) 21 v_ended) rfl v_a1 (by exact ((zup_n hna1).trans e_v_a1)) v_bad (by exact e_v_bad) v_end (by exact e_v_end) v_ended rfl v_tape (by exact e_v_tape) v_at rfl hc_2) (by decide) rfl rfl (by first | decide | simp [Value.category]) dX12_takes_2 (cs2 := (0, 0)) rfl ?_
  refine zb_S (S2 := ((va_up I 128 (va_up (va_up (I 128) 19 v_at_c1) 21 v_ended)), J, Rr, D)) (zS_eq ((zcgV (zn2 (by decide : (21 : Nat) ≠ 19))).trans zn1) rfl) ?_
  refine zb_if_ne E dX12_takes_5 (tgt := 10) rfl (fun hc => ?_) (fun hc => ?_)
  · have h := if_f h hc
    refine zb_aload_n E dX12_takes_10 0 rfl rfl ?_
    refine zb_dup E dX12_takes_11 rfl ?_
    refine zb_get E 128 (by decide) (zF_128 C.X) rfl zin12 19 (by decide) zw_1187 (v := .int v_at_c1) rfl dX12_takes_12 ?_
    refine zb_aload_n E dX12_takes_15 1 rfl rfl ?_
    refine zb_alen E ka1 hka1 (hFa1 _ _ _ _) 2 rfl (v := (Int32.ofNat n_a1)) rfl dX12_takes_16 ?_
    refine zb_iadd E dX12_takes_17 ?_
    refine zb_put E 128 (by decide) (zF_128 C.X) rfl zin12 19 (by decide) zw_1187 tyX12 tyX12_ok nmX12 rfl rfl rfl (I2 := (va_up I 128 (va_up (va_up (I 128) 19 (v_at_c1 + (Int32.ofNat n_a1))) 21 v_ended))) (J2 := J) ((zset12_19 C.X (va_up (va_up (I 128) 19 v_at_c1) 21 v_ended) (J 128) (v_at_c1 + (Int32.ofNat n_a1))).trans (congrArg (fun g => zf12 C.X g (J 128)) (zn2 (by decide : (21 : Nat) ≠ 19)))) (by rw [zflen12]; decide) (fun j hj => ⟨(zup_n hj).trans (zup_n hj).symm, rfl⟩) dX12_takes_18 ?_
    refine zb_aload_n E dX12_takes_21 0 rfl rfl ?_
    refine zb_aload_n E dX12_takes_22 0 rfl rfl ?_
    refine zb_get E 128 (by decide) (zF_128 C.X) rfl zin12 19 (by decide) zw_1187 (v := .int (v_at_c1 + (Int32.ofNat n_a1))) rfl dX12_takes_23 ?_
    refine zb_put E 128 (by decide) (zF_128 C.X) rfl zin12 21 (by decide) zw_1189 tyX12 tyX12_ok nmX12 rfl rfl rfl (I2 := (va_up I 128 (va_up (va_up (I 128) 19 (v_at_c1 + (Int32.ofNat n_a1))) 21 (v_at_c1 + (Int32.ofNat n_a1))))) (J2 := J) ((zset12_21 C.X (va_up (va_up (I 128) 19 (v_at_c1 + (Int32.ofNat n_a1))) 21 v_ended) (J 128) (v_at_c1 + (Int32.ofNat n_a1))).trans (congrArg (fun g => zf12 C.X g (J 128)) zn1)) (by rw [zflen12]; decide) (fun j hj => ⟨(zup_n hj).trans (zup_n hj).symm, rfl⟩) dX12_takes_26 ?_
    refine zb_iconst E dX12_takes_29 (v := 1) rfl ?_
    obtain ⟨rfl, rfl, rfl⟩ := zinj3 h
    exact zb_zret E hQ (ty := .boolean) rfl rfl ⟨Nat.zero_le _, Nat.zero_le _⟩ dX12_takes_30
  · have h := if_t h hc
    refine zb_iconst E dX12_takes_8 (v := 0) rfl ?_
    obtain ⟨rfl, rfl, rfl⟩ := zinj3 h
    exact zb_zret E hQ (ty := .boolean) rfl rfl ⟨Nat.zero_le _, Nat.zero_le _⟩ dX12_takes_9
theorem c_X12_takes {l : Launch} {X : zX} {I : Nat → Nat → Int32} {J : Nat → Nat → Int64} {Rr : Nat → Nat → Option Nat} {D : zD} {N : Nat} {n_a1 : Nat} (ka1 : Nat) (hka1 : ka1 < 182) (hFa1 : ∀ (X : zX) (i : Nat → Int32) (j : Nat → Int64) (r : Nat → Option Nat), zF X ka1 i j r = .inl (X.2.2.1 2, n_a1, .inl i)) (hna1 : ka1 ≠ 128) (oI128 : Nat → Int32) (eoI128 : I 128 = oI128) (v_a1 : (Nat → Int32)) (e_v_a1 : I ka1 = v_a1) (v_bad : Int32) (e_v_bad : I 128 22 = v_bad) (v_end : Int32) (e_v_end : I 128 20 = v_end) (v_tape : (Nat → Int32)) (e_v_tape : I 143 = v_tape) (v_at : Int32) (e_v_at : I 128 19 = v_at) (v_ended : Int32) (e_v_ended : I 128 21 = v_ended) {rr : Int32} {y_v_at : Int32} {y_v_ended : Int32} (h : pM_takes N n_a1 v_a1 v_at v_bad v_end v_ended v_tape = some (rr, y_v_at, y_v_ended)) : zMi l yX12_takes cX12_takes 2 (some .boolean) ({ frames := 2, cells := 0, slots := 0, locals := 43 } : Room) X [.ref (X.1 + 128), .ref (X.1 + ka1)] (I, J, Rr, D) rr ((va_up I 128 (va_up (va_up oI128 19 y_v_at) 21 y_v_ended)), J, Rr, D) := by
  subst eoI128
  refine zMi.of (by decide) (Nat.le_of_ble_eq_true rfl) (fun C E hl hX hQ => ?_)
  subst hl
  subst hX
  have eI0 : (va_up I 128 (va_up (va_up (I 128) 19 v_at) 21 v_ended)) = I := by rw [zup_idE e_v_at, zup_idE e_v_ended, zup_id]
  have eJ0 : J = J := rfl
  refine zb_S (S2 := ((va_up I 128 (va_up (va_up (I 128) 19 v_at) 21 v_ended)), J, Rr, D)) (zS_eq eI0.symm eJ0.symm) ?_
  exact c_X12_takes_0 N n_a1 ka1 hka1 hFa1 hna1 v_a1 e_v_a1 v_bad e_v_bad v_end e_v_end v_tape e_v_tape rr y_v_at y_v_ended E hQ v_at v_ended h
-- ChequeredClothModel.asks
theorem dX12_asks_0 : decode cX12_asks 0 = .ok (.aload_n 0, 1) := by decide +kernel
theorem dX12_asks_1 : decode cX12_asks 1 = .ok (.getfield 275, 3) := by decide +kernel
theorem dX12_asks_4 : decode cX12_asks 4 = .ok (.ifCond .ne 20, 3) := by decide +kernel
theorem dX12_asks_7 : decode cX12_asks 7 = .ok (.aload_n 0, 1) := by decide +kernel
theorem dX12_asks_8 : decode cX12_asks 8 = .ok (.aload_n 1, 1) := by decide +kernel
theorem dX12_asks_9 : decode cX12_asks 9 = .ok (.invokevirtual 301, 3) := by decide +kernel
theorem dX12_asks_12 : decode cX12_asks 12 = .ok (.ifCond .ne 12, 3) := by decide +kernel
theorem dX12_asks_15 : decode cX12_asks 15 = .ok (.aload_n 0, 1) := by decide +kernel
theorem dX12_asks_16 : decode cX12_asks 16 = .ok (.iconst 1, 1) := by decide +kernel
theorem dX12_asks_17 : decode cX12_asks 17 = .ok (.aload_n 0, 1) := by decide +kernel
theorem dX12_asks_18 : decode cX12_asks 18 = .ok (.getfield 281, 3) := by decide +kernel
theorem dX12_asks_21 : decode cX12_asks 21 = .ok (.invokevirtual 304, 3) := by decide +kernel
theorem dX12_asks_24 : decode cX12_asks 24 = .ok (.return_, 1) := by decide +kernel
theorem zy_X12_asks : zYv yX12_asks cX12_asks 2 none 1 := ⟨zw_1606, zws_64, zw_12, zw_1607, by decide, by decide, by decide⟩
theorem c_X12_asks_0 {C : zC} {I : Nat → Nat → Int32} {J : Nat → Nat → Int64} {Rr : Nat → Nat → Option Nat} {D : zD} (N : Nat) (n_a1 : Nat) (ka1 : Nat) (hka1 : ka1 < 182) (hFa1 : ∀ (X : zX) (i : Nat → Int32) (j : Nat → Int64) (r : Nat → Option Nat), zF X ka1 i j r = .inl (X.2.2.1 2, n_a1, .inl i)) (hna1 : ka1 ≠ 128) (v_a1 : (Nat → Int32)) (e_v_a1 : I ka1 = v_a1) (v_end : Int32) (e_v_end : I 128 20 = v_end) (v_tape : (Nat → Int32)) (e_v_tape : I 143 = v_tape) (y_v_at : Int32) (y_v_bad : Int32) (y_v_badPlace : Int32) (y_v_ended : Int32) (E : zE C RX12 cX12_asks 2 none ({ frames := 3, cells := 0, slots := 0, locals := 64 } : Room)) (hQ : C.Q = zQv C ({ frames := 3, cells := 0, slots := 0, locals := 64 } : Room) ((va_up I 128 (va_up (va_up (va_up (va_up (I 128) 19 y_v_at) 21 y_v_ended) 22 y_v_bad) 23 y_v_badPlace)), J, Rr, D)) (v_at : Int32) (v_bad : Int32) (v_badPlace : Int32) (v_ended : Int32) (h : pM_asks N n_a1 v_a1 v_at v_bad v_badPlace v_end v_ended v_tape = some (y_v_at, y_v_bad, y_v_badPlace, y_v_ended)) : zB C (0, 0) 0 [(0, .ref (C.X.1 + 128)), (1, .ref (C.X.1 + ka1))] [] ((va_up I 128 (va_up (va_up (va_up (va_up (I 128) 19 v_at) 21 v_ended) 22 v_bad) 23 v_badPlace)), J, Rr, D) := by
  refine zb_aload_n E dX12_asks_0 0 rfl rfl ?_
  refine zb_get E 128 (by decide) (zF_128 C.X) rfl zin12 22 (by decide) zw_1190 (v := .int v_bad) rfl dX12_asks_1 ?_
  refine zb_if_ne E dX12_asks_4 (tgt := 24) rfl (fun hc => ?_) (fun hc => ?_)
  · have h := if_f h hc
    obtain ⟨rfl, rfl, rfl, rfl⟩ := zinj4 h
    exact zb_vret E hQ rfl ⟨Nat.zero_le _, Nat.zero_le _⟩ dX12_asks_24
  · have h := if_t h hc
    refine zb_aload_n E dX12_asks_7 0 rfl rfl ?_
    refine zb_aload_n E dX12_asks_8 1 rfl rfl ?_
    obtain ⟨rc1, v_at_c1, v_ended_c1, hc_9, h⟩ := bd3_s h
    refine zb_cVi E [.ref (C.X.1 + ka1)] 128 zy_X12_takes zw_1581 (by decide) (zF_128 _ _ _ _) rfl (c_X12_takes ka1 hka1 hFa1 hna1 (va_up (va_up (va_up (va_up (I 128) 19 v_at) 21 v_ended) 22 v_bad) 23 v_badPlace) rfl v_a1 (by exact ((zup_n hna1).trans e_v_a1)) v_bad rfl v_end (by exact e_v_end) v_tape (by exact e_v_tape) v_at rfl v_ended rfl hc_9) (by decide) rfl rfl (by first | decide | simp [Value.category]) dX12_asks_9 (cs2 := (0, 0)) rfl ?_
    refine zb_S (S2 := ((va_up I 128 (va_up (va_up (va_up (va_up (I 128) 19 v_at_c1) 21 v_ended_c1) 22 v_bad) 23 v_badPlace)), J, Rr, D)) (zS_eq ((zcgV ((zcgF (zn4 (by decide : (23 : Nat) ≠ 19) (by decide : (22 : Nat) ≠ 19) (by decide : (21 : Nat) ≠ 19))).trans (zn3 (by decide : (23 : Nat) ≠ 21) (by decide : (22 : Nat) ≠ 21)))).trans zn1) rfl) ?_
    refine zb_if_ne E dX12_asks_12 (tgt := 24) rfl (fun hc => ?_) (fun hc => ?_)
    · have h := if_f h hc
      obtain ⟨rfl, rfl, rfl, rfl⟩ := zinj4 h
      exact zb_vret E hQ rfl ⟨Nat.zero_le _, Nat.zero_le _⟩ dX12_asks_24
    · have h := if_t h hc
      refine zb_aload_n E dX12_asks_15 0 rfl rfl ?_
      refine zb_iconst E dX12_asks_16 (v := 1) rfl ?_
      refine zb_aload_n E dX12_asks_17 0 rfl rfl ?_
      refine zb_get E 128 (by decide) (zF_128 C.X) rfl zin12 19 (by decide) zw_1187 (v := .int v_at_c1) rfl dX12_asks_18 ?_
      obtain ⟨v_bad_c2, v_badPlace_c2, hc_21, h⟩ := bd2_s h
      refine zb_cVv E [.int 1, .int v_at_c1] 128 zy_X12_fail zw_1577 (by decide) (zF_128 _ _ _ _) rfl (c_X12_fail (va_up (va_up (va_up (va_up (I 128) 19 v_at_c1) 21 v_ended_c1) 22 v_bad) 23 v_badPlace) rfl v_bad rfl v_badPlace rfl hc_21) (by decide) rfl rfl (by first | decide | simp [Value.category]) dX12_asks_21 (cs2 := (0, 0)) rfl ?_
      refine zb_S (S2 := ((va_up I 128 (va_up (va_up (va_up (va_up (I 128) 19 v_at_c1) 21 v_ended_c1) 22 v_bad_c2) 23 v_badPlace_c2)), J, Rr, D)) (zS_eq ((zcgV ((zcgF (zn2 (by decide : (23 : Nat) ≠ 22))).trans zn1)).trans zn1) rfl) ?_
      obtain ⟨rfl, rfl, rfl, rfl⟩ := zinj4 h
      exact zb_vret E hQ rfl ⟨Nat.zero_le _, Nat.zero_le _⟩ dX12_asks_24
theorem c_X12_asks {l : Launch} {X : zX} {I : Nat → Nat → Int32} {J : Nat → Nat → Int64} {Rr : Nat → Nat → Option Nat} {D : zD} {N : Nat} {n_a1 : Nat} (ka1 : Nat) (hka1 : ka1 < 182) (hFa1 : ∀ (X : zX) (i : Nat → Int32) (j : Nat → Int64) (r : Nat → Option Nat), zF X ka1 i j r = .inl (X.2.2.1 2, n_a1, .inl i)) (hna1 : ka1 ≠ 128) (oI128 : Nat → Int32) (eoI128 : I 128 = oI128) (v_a1 : (Nat → Int32)) (e_v_a1 : I ka1 = v_a1) (v_end : Int32) (e_v_end : I 128 20 = v_end) (v_tape : (Nat → Int32)) (e_v_tape : I 143 = v_tape) (v_at : Int32) (e_v_at : I 128 19 = v_at) (v_bad : Int32) (e_v_bad : I 128 22 = v_bad) (v_badPlace : Int32) (e_v_badPlace : I 128 23 = v_badPlace) (v_ended : Int32) (e_v_ended : I 128 21 = v_ended) {y_v_at : Int32} {y_v_bad : Int32} {y_v_badPlace : Int32} {y_v_ended : Int32} (h : pM_asks N n_a1 v_a1 v_at v_bad v_badPlace v_end v_ended v_tape = some (y_v_at, y_v_bad, y_v_badPlace, y_v_ended)) : zMv l yX12_asks cX12_asks 2 none ({ frames := 3, cells := 0, slots := 0, locals := 64 } : Room) X [.ref (X.1 + 128), .ref (X.1 + ka1)] (I, J, Rr, D) ((va_up I 128 (va_up (va_up (va_up (va_up oI128 19 y_v_at) 21 y_v_ended) 22 y_v_bad) 23 y_v_badPlace)), J, Rr, D) := by
  subst eoI128
  refine zMv.of (by decide) (Nat.le_of_ble_eq_true rfl) (fun C E hl hX hQ => ?_)
  subst hl
  subst hX
  have eI0 : (va_up I 128 (va_up (va_up (va_up (va_up (I 128) 19 v_at) 21 v_ended) 22 v_bad) 23 v_badPlace)) = I := by rw [zup_idE e_v_at, zup_idE e_v_ended, zup_idE e_v_bad, zup_idE e_v_badPlace, zup_id]
  have eJ0 : J = J := rfl
  refine zb_S (S2 := ((va_up I 128 (va_up (va_up (va_up (va_up (I 128) 19 v_at) 21 v_ended) 22 v_bad) 23 v_badPlace)), J, Rr, D)) (zS_eq eI0.symm eJ0.symm) ?_
  exact c_X12_asks_0 N n_a1 ka1 hka1 hFa1 hna1 v_a1 e_v_a1 v_end e_v_end v_tape e_v_tape y_v_at y_v_bad y_v_badPlace y_v_ended E hQ v_at v_bad v_badPlace v_ended h
-- ChequeredClothModel.takesSign
theorem dX12_takesSign_0 : decode cX12_takesSign 0 = .ok (.aload_n 0, 1) := by decide +kernel
theorem dX12_takesSign_1 : decode cX12_takesSign 1 = .ok (.getfield 275, 3) := by decide +kernel
theorem dX12_takesSign_4 : decode cX12_takesSign 4 = .ok (.ifCond .ne 11, 3) := by decide +kernel
theorem dX12_takesSign_7 : decode cX12_takesSign 7 = .ok (.aload_n 0, 1) := by decide +kernel
theorem dX12_takesSign_8 : decode cX12_takesSign 8 = .ok (.invokevirtual 287, 3) := by decide +kernel
theorem dX12_takesSign_11 : decode cX12_takesSign 11 = .ok (.iload_n 1, 1) := by decide +kernel
theorem dX12_takesSign_12 : decode cX12_takesSign 12 = .ok (.if_icmp .eq 5, 3) := by decide +kernel
theorem dX12_takesSign_15 : decode cX12_takesSign 15 = .ok (.iconst 0, 1) := by decide +kernel
theorem dX12_takesSign_16 : decode cX12_takesSign 16 = .ok (.ireturn, 1) := by decide +kernel
theorem dX12_takesSign_17 : decode cX12_takesSign 17 = .ok (.aload_n 0, 1) := by decide +kernel
theorem dX12_takesSign_18 : decode cX12_takesSign 18 = .ok (.dup, 1) := by decide +kernel
theorem dX12_takesSign_19 : decode cX12_takesSign 19 = .ok (.getfield 281, 3) := by decide +kernel
theorem dX12_takesSign_22 : decode cX12_takesSign 22 = .ok (.iconst 1, 1) := by decide +kernel
theorem dX12_takesSign_23 : decode cX12_takesSign 23 = .ok (.iadd, 1) := by decide +kernel
theorem dX12_takesSign_24 : decode cX12_takesSign 24 = .ok (.putfield 281, 3) := by decide +kernel
theorem dX12_takesSign_27 : decode cX12_takesSign 27 = .ok (.iconst 1, 1) := by decide +kernel
theorem dX12_takesSign_28 : decode cX12_takesSign 28 = .ok (.ireturn, 1) := by decide +kernel
theorem zy_X12_takesSign : zYv yX12_takesSign cX12_takesSign 2 (some .boolean) 1 := ⟨zw_1614, zws_66, zw_12, zw_1615, by decide, by decide, by decide⟩
theorem c_X12_takesSign_0 {C : zC} {I : Nat → Nat → Int32} {J : Nat → Nat → Int64} {Rr : Nat → Nat → Option Nat} {D : zD} (N : Nat) (a1 : Int32) (v_bad : Int32) (e_v_bad : I 128 22 = v_bad) (v_end : Int32) (e_v_end : I 128 20 = v_end) (v_tape : (Nat → Int32)) (e_v_tape : I 143 = v_tape) (rr : Int32) (y_v_at : Int32) (E : zE C RX12 cX12_takesSign 2 (some .boolean) ({ frames := 1, cells := 0, slots := 0, locals := 20 } : Room)) (hQ : C.Q = zQi C ({ frames := 1, cells := 0, slots := 0, locals := 20 } : Room) rr ((va_up I 128 (va_up (I 128) 19 y_v_at)), J, Rr, D)) (v_at : Int32) (h : pM_takesSign N a1 v_at v_bad v_end v_tape = some (rr, y_v_at)) : zB C (0, 0) 0 [(0, .ref (C.X.1 + 128)), (1, .int a1)] [] ((va_up I 128 (va_up (I 128) 19 v_at)), J, Rr, D) := by
  refine zb_aload_n E dX12_takesSign_0 0 rfl rfl ?_
  refine zb_get E 128 (by decide) (zF_128 C.X) rfl zin12 22 (by decide) zw_1190 (v := .int v_bad) (by exact congrArg (fun z => some (Value.int z)) e_v_bad) dX12_takesSign_1 ?_
  refine zb_if_ne E dX12_takesSign_4 (tgt := 15) rfl (fun hc => ?_) (fun hc => ?_)
  · have h := if_f h hc
    refine zb_iconst E dX12_takesSign_15 (v := 0) rfl ?_
    obtain ⟨rfl, rfl⟩ := zinj2 h
    exact zb_zret E hQ (ty := .boolean) rfl rfl ⟨Nat.zero_le _, Nat.zero_le _⟩ dX12_takesSign_16
  · have h := if_t h hc
    refine zb_aload_n E dX12_takesSign_7 0 rfl rfl ?_
    obtain ⟨rc1, v_at_c1, hc_8, h⟩ := bd2_s h
    refine zb_cVi E [] 128 zy_X12_look zw_1569 (by decide) (zF_128 _ _ _ _) rfl (c_X12_look (va_up (I 128) 19 v_at) rfl v_end (by exact e_v_end) v_tape (by exact e_v_tape) v_at rfl hc_8) (by decide) rfl rfl (by first | decide | simp [Value.category]) dX12_takesSign_8 (cs2 := (0, 0)) rfl ?_
    refine zb_S (S2 := ((va_up I 128 (va_up (I 128) 19 v_at_c1)), J, Rr, D)) (zS_eq ((zcgV zn1).trans zn1) rfl) ?_
    refine zb_iload_n E dX12_takesSign_11 1 rfl rfl ?_
    refine zb_icmp_eq E dX12_takesSign_12 (tgt := 17) rfl (fun hc => ?_) (fun hc => ?_)
    · have h := if_t h hc
      refine zb_aload_n E dX12_takesSign_17 0 rfl rfl ?_
      refine zb_dup E dX12_takesSign_18 rfl ?_
      refine zb_get E 128 (by decide) (zF_128 C.X) rfl zin12 19 (by decide) zw_1187 (v := .int v_at_c1) rfl dX12_takesSign_19 ?_
      refine zb_iconst E dX12_takesSign_22 (v := 1) rfl ?_
      refine zb_iadd E dX12_takesSign_23 ?_
      refine zb_put E 128 (by decide) (zF_128 C.X) rfl zin12 19 (by decide) zw_1187 tyX12 tyX12_ok nmX12 rfl rfl rfl (I2 := (va_up I 128 (va_up (I 128) 19 (v_at_c1 + 1)))) (J2 := J) ((zset12_19 C.X (va_up (I 128) 19 v_at_c1) (J 128) (v_at_c1 + 1)).trans (congrArg (fun g => zf12 C.X g (J 128)) zn1)) (by rw [zflen12]; decide) (fun j hj => ⟨(zup_n hj).trans (zup_n hj).symm, rfl⟩) dX12_takesSign_24 ?_
      refine zb_iconst E dX12_takesSign_27 (v := 1) rfl ?_
      obtain ⟨rfl, rfl⟩ := zinj2 h
      exact zb_zret E hQ (ty := .boolean) rfl rfl ⟨Nat.zero_le _, Nat.zero_le _⟩ dX12_takesSign_28
    · have h := if_f h hc
      refine zb_iconst E dX12_takesSign_15 (v := 0) rfl ?_
      obtain ⟨rfl, rfl⟩ := zinj2 h
      exact zb_zret E hQ (ty := .boolean) rfl rfl ⟨Nat.zero_le _, Nat.zero_le _⟩ dX12_takesSign_16
theorem c_X12_takesSign {l : Launch} {X : zX} {I : Nat → Nat → Int32} {J : Nat → Nat → Int64} {Rr : Nat → Nat → Option Nat} {D : zD} {N : Nat} {a1 : Int32} (oI128 : Nat → Int32) (eoI128 : I 128 = oI128) (v_bad : Int32) (e_v_bad : I 128 22 = v_bad) (v_end : Int32) (e_v_end : I 128 20 = v_end) (v_tape : (Nat → Int32)) (e_v_tape : I 143 = v_tape) (v_at : Int32) (e_v_at : I 128 19 = v_at) {rr : Int32} {y_v_at : Int32} (h : pM_takesSign N a1 v_at v_bad v_end v_tape = some (rr, y_v_at)) : zMi l yX12_takesSign cX12_takesSign 2 (some .boolean) ({ frames := 1, cells := 0, slots := 0, locals := 20 } : Room) X [.ref (X.1 + 128), .int a1] (I, J, Rr, D) rr ((va_up I 128 (va_up oI128 19 y_v_at)), J, Rr, D) := by
  subst eoI128
  refine zMi.of (by decide) (Nat.le_of_ble_eq_true rfl) (fun C E hl hX hQ => ?_)
  subst hl
  subst hX
  have eI0 : (va_up I 128 (va_up (I 128) 19 v_at)) = I := by rw [zup_idE e_v_at, zup_id]
  have eJ0 : J = J := rfl
  refine zb_S (S2 := ((va_up I 128 (va_up (I 128) 19 v_at)), J, Rr, D)) (zS_eq eI0.symm eJ0.symm) ?_
  exact c_X12_takesSign_0 N a1 v_bad e_v_bad v_end e_v_end v_tape e_v_tape rr y_v_at E hQ v_at h
-- ChequeredClothModel.asksSign
theorem dX12_asksSign_0 : decode cX12_asksSign 0 = .ok (.aload_n 0, 1) := by decide +kernel
theorem dX12_asksSign_1 : decode cX12_asksSign 1 = .ok (.getfield 275, 3) := by decide +kernel
theorem dX12_asksSign_4 : decode cX12_asksSign 4 = .ok (.ifCond .ne 20, 3) := by decide +kernel
theorem dX12_asksSign_7 : decode cX12_asksSign 7 = .ok (.aload_n 0, 1) := by decide +kernel
theorem dX12_asksSign_8 : decode cX12_asksSign 8 = .ok (.iload_n 1, 1) := by decide +kernel
theorem dX12_asksSign_9 : decode cX12_asksSign 9 = .ok (.invokevirtual 308, 3) := by decide +kernel
theorem dX12_asksSign_12 : decode cX12_asksSign 12 = .ok (.ifCond .ne 12, 3) := by decide +kernel
theorem dX12_asksSign_15 : decode cX12_asksSign 15 = .ok (.aload_n 0, 1) := by decide +kernel
theorem dX12_asksSign_16 : decode cX12_asksSign 16 = .ok (.iconst 1, 1) := by decide +kernel
theorem dX12_asksSign_17 : decode cX12_asksSign 17 = .ok (.aload_n 0, 1) := by decide +kernel
theorem dX12_asksSign_18 : decode cX12_asksSign 18 = .ok (.getfield 281, 3) := by decide +kernel
theorem dX12_asksSign_21 : decode cX12_asksSign 21 = .ok (.invokevirtual 304, 3) := by decide +kernel
theorem dX12_asksSign_24 : decode cX12_asksSign 24 = .ok (.return_, 1) := by decide +kernel
theorem zy_X12_asksSign : zYv yX12_asksSign cX12_asksSign 2 none 1 := ⟨zw_1610, zws_65, zw_12, zw_1611, by decide, by decide, by decide⟩
theorem c_X12_asksSign_0 {C : zC} {I : Nat → Nat → Int32} {J : Nat → Nat → Int64} {Rr : Nat → Nat → Option Nat} {D : zD} (N : Nat) (a1 : Int32) (v_end : Int32) (e_v_end : I 128 20 = v_end) (v_tape : (Nat → Int32)) (e_v_tape : I 143 = v_tape) (y_v_at : Int32) (y_v_bad : Int32) (y_v_badPlace : Int32) (E : zE C RX12 cX12_asksSign 2 none ({ frames := 2, cells := 0, slots := 0, locals := 41 } : Room)) (hQ : C.Q = zQv C ({ frames := 2, cells := 0, slots := 0, locals := 41 } : Room) ((va_up I 128 (va_up (va_up (va_up (I 128) 19 y_v_at) 22 y_v_bad) 23 y_v_badPlace)), J, Rr, D)) (v_at : Int32) (v_bad : Int32) (v_badPlace : Int32) (h : pM_asksSign N a1 v_at v_bad v_badPlace v_end v_tape = some (y_v_at, y_v_bad, y_v_badPlace)) : zB C (0, 0) 0 [(0, .ref (C.X.1 + 128)), (1, .int a1)] [] ((va_up I 128 (va_up (va_up (va_up (I 128) 19 v_at) 22 v_bad) 23 v_badPlace)), J, Rr, D) := by
  refine zb_aload_n E dX12_asksSign_0 0 rfl rfl ?_
  refine zb_get E 128 (by decide) (zF_128 C.X) rfl zin12 22 (by decide) zw_1190 (v := .int v_bad) rfl dX12_asksSign_1 ?_
  refine zb_if_ne E dX12_asksSign_4 (tgt := 24) rfl (fun hc => ?_) (fun hc => ?_)
  · have h := if_f h hc
    obtain ⟨rfl, rfl, rfl⟩ := zinj3 h
    exact zb_vret E hQ rfl ⟨Nat.zero_le _, Nat.zero_le _⟩ dX12_asksSign_24
  · have h := if_t h hc
    refine zb_aload_n E dX12_asksSign_7 0 rfl rfl ?_
    refine zb_iload_n E dX12_asksSign_8 1 rfl rfl ?_
    obtain ⟨rc1, v_at_c1, hc_9, h⟩ := bd2_s h
    refine zb_cVi E [.int a1] 128 zy_X12_takesSign zw_1612 (by decide) (zF_128 _ _ _ _) rfl (c_X12_takesSign (va_up (va_up (va_up (I 128) 19 v_at) 22 v_bad) 23 v_badPlace) rfl v_bad rfl v_end (by exact e_v_end) v_tape (by exact e_v_tape) v_at rfl hc_9) (by decide) rfl rfl (by first | decide | simp [Value.category]) dX12_asksSign_9 (cs2 := (0, 0)) rfl ?_
    refine zb_S (S2 := ((va_up I 128 (va_up (va_up (va_up (I 128) 19 v_at_c1) 22 v_bad) 23 v_badPlace)), J, Rr, D)) (zS_eq ((zcgV (zn3 (by decide : (23 : Nat) ≠ 19) (by decide : (22 : Nat) ≠ 19))).trans zn1) rfl) ?_
    refine zb_if_ne E dX12_asksSign_12 (tgt := 24) rfl (fun hc => ?_) (fun hc => ?_)
    · have h := if_f h hc
      obtain ⟨rfl, rfl, rfl⟩ := zinj3 h
      exact zb_vret E hQ rfl ⟨Nat.zero_le _, Nat.zero_le _⟩ dX12_asksSign_24
    · have h := if_t h hc
      refine zb_aload_n E dX12_asksSign_15 0 rfl rfl ?_
      refine zb_iconst E dX12_asksSign_16 (v := 1) rfl ?_
      refine zb_aload_n E dX12_asksSign_17 0 rfl rfl ?_
      refine zb_get E 128 (by decide) (zF_128 C.X) rfl zin12 19 (by decide) zw_1187 (v := .int v_at_c1) rfl dX12_asksSign_18 ?_
      obtain ⟨v_bad_c2, v_badPlace_c2, hc_21, h⟩ := bd2_s h
      refine zb_cVv E [.int 1, .int v_at_c1] 128 zy_X12_fail zw_1577 (by decide) (zF_128 _ _ _ _) rfl (c_X12_fail (va_up (va_up (va_up (I 128) 19 v_at_c1) 22 v_bad) 23 v_badPlace) rfl v_bad rfl v_badPlace rfl hc_21) (by decide) rfl rfl (by first | decide | simp [Value.category]) dX12_asksSign_21 (cs2 := (0, 0)) rfl ?_
      refine zb_S (S2 := ((va_up I 128 (va_up (va_up (va_up (I 128) 19 v_at_c1) 22 v_bad_c2) 23 v_badPlace_c2)), J, Rr, D)) (zS_eq ((zcgV ((zcgF (zn2 (by decide : (23 : Nat) ≠ 22))).trans zn1)).trans zn1) rfl) ?_
      obtain ⟨rfl, rfl, rfl⟩ := zinj3 h
      exact zb_vret E hQ rfl ⟨Nat.zero_le _, Nat.zero_le _⟩ dX12_asksSign_24
theorem c_X12_asksSign {l : Launch} {X : zX} {I : Nat → Nat → Int32} {J : Nat → Nat → Int64} {Rr : Nat → Nat → Option Nat} {D : zD} {N : Nat} {a1 : Int32} (oI128 : Nat → Int32) (eoI128 : I 128 = oI128) (v_end : Int32) (e_v_end : I 128 20 = v_end) (v_tape : (Nat → Int32)) (e_v_tape : I 143 = v_tape) (v_at : Int32) (e_v_at : I 128 19 = v_at) (v_bad : Int32) (e_v_bad : I 128 22 = v_bad) (v_badPlace : Int32) (e_v_badPlace : I 128 23 = v_badPlace) {y_v_at : Int32} {y_v_bad : Int32} {y_v_badPlace : Int32} (h : pM_asksSign N a1 v_at v_bad v_badPlace v_end v_tape = some (y_v_at, y_v_bad, y_v_badPlace)) : zMv l yX12_asksSign cX12_asksSign 2 none ({ frames := 2, cells := 0, slots := 0, locals := 41 } : Room) X [.ref (X.1 + 128), .int a1] (I, J, Rr, D) ((va_up I 128 (va_up (va_up (va_up oI128 19 y_v_at) 22 y_v_bad) 23 y_v_badPlace)), J, Rr, D) := by
  subst eoI128
  refine zMv.of (by decide) (Nat.le_of_ble_eq_true rfl) (fun C E hl hX hQ => ?_)
  subst hl
  subst hX
  have eI0 : (va_up I 128 (va_up (va_up (va_up (I 128) 19 v_at) 22 v_bad) 23 v_badPlace)) = I := by rw [zup_idE e_v_at, zup_idE e_v_bad, zup_idE e_v_badPlace, zup_id]
  have eJ0 : J = J := rfl
  refine zb_S (S2 := ((va_up I 128 (va_up (va_up (va_up (I 128) 19 v_at) 22 v_bad) 23 v_badPlace)), J, Rr, D)) (zS_eq eI0.symm eJ0.symm) ?_
  exact c_X12_asksSign_0 N a1 v_end e_v_end v_tape e_v_tape y_v_at y_v_bad y_v_badPlace E hQ v_at v_bad v_badPlace h
-- ChequeredClothModel.number
theorem dX12_number_0 : decode cX12_number 0 = .ok (.aload_n 0, 1) := by decide +kernel
theorem dX12_number_1 : decode cX12_number 1 = .ok (.getfield 275, 3) := by decide +kernel
theorem dX12_number_4 : decode cX12_number 4 = .ok (.ifCond .eq 5, 3) := by decide +kernel
theorem dX12_number_7 : decode cX12_number 7 = .ok (.iconst 0, 1) := by decide +kernel
theorem dX12_number_8 : decode cX12_number 8 = .ok (.ireturn, 1) := by decide +kernel
theorem dX12_number_9 : decode cX12_number 9 = .ok (.aload_n 0, 1) := by decide +kernel
theorem dX12_number_10 : decode cX12_number 10 = .ok (.invokevirtual 287, 3) := by decide +kernel
theorem dX12_number_13 : decode cX12_number 13 = .ok (.invokestatic 311, 3) := by decide +kernel
theorem dX12_number_16 : decode cX12_number 16 = .ok (.ifCond .eq 14, 3) := by decide +kernel
theorem dX12_number_19 : decode cX12_number 19 = .ok (.aload_n 0, 1) := by decide +kernel
theorem dX12_number_20 : decode cX12_number 20 = .ok (.getfield 281, 3) := by decide +kernel
theorem dX12_number_23 : decode cX12_number 23 = .ok (.aload_n 0, 1) := by decide +kernel
theorem dX12_number_24 : decode cX12_number 24 = .ok (.getfield 294, 3) := by decide +kernel
theorem dX12_number_27 : decode cX12_number 27 = .ok (.if_icmp .ne 14, 3) := by decide +kernel
theorem dX12_number_30 : decode cX12_number 30 = .ok (.aload_n 0, 1) := by decide +kernel
theorem dX12_number_31 : decode cX12_number 31 = .ok (.iconst 1, 1) := by decide +kernel
theorem dX12_number_32 : decode cX12_number 32 = .ok (.aload_n 0, 1) := by decide +kernel
theorem dX12_number_33 : decode cX12_number 33 = .ok (.getfield 281, 3) := by decide +kernel
theorem dX12_number_36 : decode cX12_number 36 = .ok (.invokevirtual 304, 3) := by decide +kernel
theorem dX12_number_39 : decode cX12_number 39 = .ok (.iconst 0, 1) := by decide +kernel
theorem dX12_number_40 : decode cX12_number 40 = .ok (.ireturn, 1) := by decide +kernel
theorem dX12_number_41 : decode cX12_number 41 = .ok (.aload_n 0, 1) := by decide +kernel
theorem dX12_number_42 : decode cX12_number 42 = .ok (.getfield 281, 3) := by decide +kernel
theorem dX12_number_45 : decode cX12_number 45 = .ok (.istore_n 3, 1) := by decide +kernel
theorem dX12_number_46 : decode cX12_number 46 = .ok (.iconst 0, 1) := by decide +kernel
theorem dX12_number_47 : decode cX12_number 47 = .ok (.istore 4, 2) := by decide +kernel
theorem dX12_number_49 : decode cX12_number 49 = .ok (.aload_n 0, 1) := by decide +kernel
theorem dX12_number_50 : decode cX12_number 50 = .ok (.getfield 281, 3) := by decide +kernel
theorem dX12_number_53 : decode cX12_number 53 = .ok (.aload_n 0, 1) := by decide +kernel
theorem dX12_number_54 : decode cX12_number 54 = .ok (.getfield 284, 3) := by decide +kernel
theorem dX12_number_57 : decode cX12_number 57 = .ok (.if_icmp .ge 72, 3) := by decide +kernel
theorem dX12_number_60 : decode cX12_number 60 = .ok (.aload_n 0, 1) := by decide +kernel
theorem dX12_number_61 : decode cX12_number 61 = .ok (.getfield 63, 3) := by decide +kernel
theorem dX12_number_64 : decode cX12_number 64 = .ok (.aload_n 0, 1) := by decide +kernel
theorem dX12_number_65 : decode cX12_number 65 = .ok (.getfield 281, 3) := by decide +kernel
theorem dX12_number_68 : decode cX12_number 68 = .ok (.iaload, 1) := by decide +kernel
theorem dX12_number_69 : decode cX12_number 69 = .ok (.invokestatic 311, 3) := by decide +kernel
theorem dX12_number_72 : decode cX12_number 72 = .ok (.ifCond .eq 57, 3) := by decide +kernel
theorem dX12_number_75 : decode cX12_number 75 = .ok (.aload_n 0, 1) := by decide +kernel
theorem dX12_number_76 : decode cX12_number 76 = .ok (.getfield 281, 3) := by decide +kernel
theorem dX12_number_79 : decode cX12_number 79 = .ok (.iload_n 3, 1) := by decide +kernel
theorem dX12_number_80 : decode cX12_number 80 = .ok (.isub, 1) := by decide +kernel
theorem dX12_number_81 : decode cX12_number 81 = .ok (.iconst 5, 1) := by decide +kernel
theorem dX12_number_82 : decode cX12_number 82 = .ok (.if_icmp .ne 14, 3) := by decide +kernel
theorem dX12_number_85 : decode cX12_number 85 = .ok (.aload_n 0, 1) := by decide +kernel
theorem dX12_number_86 : decode cX12_number 86 = .ok (.iconst 1, 1) := by decide +kernel
theorem dX12_number_87 : decode cX12_number 87 = .ok (.aload_n 0, 1) := by decide +kernel
theorem dX12_number_88 : decode cX12_number 88 = .ok (.getfield 281, 3) := by decide +kernel
theorem dX12_number_91 : decode cX12_number 91 = .ok (.invokevirtual 304, 3) := by decide +kernel
theorem dX12_number_94 : decode cX12_number 94 = .ok (.iconst 0, 1) := by decide +kernel
theorem dX12_number_95 : decode cX12_number 95 = .ok (.ireturn, 1) := by decide +kernel
theorem dX12_number_96 : decode cX12_number 96 = .ok (.bipush 10, 2) := by decide +kernel
theorem dX12_number_98 : decode cX12_number 98 = .ok (.iload 4, 2) := by decide +kernel
theorem dX12_number_100 : decode cX12_number 100 = .ok (.imul, 1) := by decide +kernel
theorem dX12_number_101 : decode cX12_number 101 = .ok (.aload_n 0, 1) := by decide +kernel
theorem dX12_number_102 : decode cX12_number 102 = .ok (.getfield 63, 3) := by decide +kernel
theorem dX12_number_105 : decode cX12_number 105 = .ok (.aload_n 0, 1) := by decide +kernel
theorem dX12_number_106 : decode cX12_number 106 = .ok (.getfield 281, 3) := by decide +kernel
theorem dX12_number_109 : decode cX12_number 109 = .ok (.iaload, 1) := by decide +kernel
theorem dX12_number_110 : decode cX12_number 110 = .ok (.iadd, 1) := by decide +kernel
theorem dX12_number_111 : decode cX12_number 111 = .ok (.bipush 48, 2) := by decide +kernel
theorem dX12_number_113 : decode cX12_number 113 = .ok (.isub, 1) := by decide +kernel
theorem dX12_number_114 : decode cX12_number 114 = .ok (.istore 4, 2) := by decide +kernel
theorem dX12_number_116 : decode cX12_number 116 = .ok (.aload_n 0, 1) := by decide +kernel
theorem dX12_number_117 : decode cX12_number 117 = .ok (.dup, 1) := by decide +kernel
theorem dX12_number_118 : decode cX12_number 118 = .ok (.getfield 281, 3) := by decide +kernel
theorem dX12_number_121 : decode cX12_number 121 = .ok (.iconst 1, 1) := by decide +kernel
theorem dX12_number_122 : decode cX12_number 122 = .ok (.iadd, 1) := by decide +kernel
theorem dX12_number_123 : decode cX12_number 123 = .ok (.putfield 281, 3) := by decide +kernel
theorem dX12_number_126 : decode cX12_number 126 = .ok (.goto (-77), 3) := by decide +kernel
theorem dX12_number_129 : decode cX12_number 129 = .ok (.aload_n 0, 1) := by decide +kernel
theorem dX12_number_130 : decode cX12_number 130 = .ok (.aload_n 0, 1) := by decide +kernel
theorem dX12_number_131 : decode cX12_number 131 = .ok (.getfield 281, 3) := by decide +kernel
theorem dX12_number_134 : decode cX12_number 134 = .ok (.putfield 294, 3) := by decide +kernel
theorem dX12_number_137 : decode cX12_number 137 = .ok (.iload 4, 2) := by decide +kernel
theorem dX12_number_139 : decode cX12_number 139 = .ok (.i2l, 1) := by decide +kernel
theorem dX12_number_140 : decode cX12_number 140 = .ok (.iload_n 1, 1) := by decide +kernel
theorem dX12_number_141 : decode cX12_number 141 = .ok (.i2l, 1) := by decide +kernel
theorem dX12_number_142 : decode cX12_number 142 = .ok (.iload_n 2, 1) := by decide +kernel
theorem dX12_number_143 : decode cX12_number 143 = .ok (.i2l, 1) := by decide +kernel
theorem dX12_number_144 : decode cX12_number 144 = .ok (.invokestatic 199, 3) := by decide +kernel
theorem dX12_number_147 : decode cX12_number 147 = .ok (.ifCond .ne 9, 3) := by decide +kernel
theorem dX12_number_150 : decode cX12_number 150 = .ok (.aload_n 0, 1) := by decide +kernel
theorem dX12_number_151 : decode cX12_number 151 = .ok (.iconst 2, 1) := by decide +kernel
theorem dX12_number_152 : decode cX12_number 152 = .ok (.iload_n 3, 1) := by decide +kernel
theorem dX12_number_153 : decode cX12_number 153 = .ok (.invokevirtual 304, 3) := by decide +kernel
theorem dX12_number_156 : decode cX12_number 156 = .ok (.iload 4, 2) := by decide +kernel
theorem dX12_number_158 : decode cX12_number 158 = .ok (.ireturn, 1) := by decide +kernel
theorem zy_X12_number : zYv yX12_number cX12_number 5 (some .int) 2 := ⟨zw_1627, zws_69, zw_12, zw_1628, by decide, by decide, by decide⟩
theorem c_X12_number_b30 {C : zC} {I : Nat → Nat → Int32} {J : Nat → Nat → Int64} {Rr : Nat → Nat → Option Nat} {D : zD} (N : Nat) (a1 : Int32) (a2 : Int32) (v_end : Int32) (e_v_end : I 128 20 = v_end) (v_tape : (Nat → Int32)) (e_v_tape : I 143 = v_tape) (rr : Int32) (y_v_at : Int32) (y_v_bad : Int32) (y_v_badPlace : Int32) (y_v_ended : Int32) (E : zE C RX12 cX12_number 5 (some .int) ({ frames := 1, cells := 0, slots := 0, locals := 25 } : Room)) (hQ : C.Q = zQi C ({ frames := 1, cells := 0, slots := 0, locals := 25 } : Room) rr ((va_up I 128 (va_up (va_up (va_up (va_up (I 128) 19 y_v_at) 21 y_v_ended) 22 y_v_bad) 23 y_v_badPlace)), J, Rr, D)) (v_at : Int32) (v_bad : Int32) (v_badPlace : Int32) (v_ended : Int32) (h : pM_number_b30 N a1 a2 v_end v_tape v_at v_bad v_badPlace v_ended = some (rr, y_v_at, y_v_bad, y_v_badPlace, y_v_ended)) : zB C (0, 0) 30 [(0, .ref (C.X.1 + 128))] [] ((va_up I 128 (va_up (va_up (va_up (va_up (I 128) 19 v_at) 21 v_ended) 22 v_bad) 23 v_badPlace)), J, Rr, D) := by
  refine zb_aload_n E dX12_number_30 0 rfl rfl ?_
  refine zb_iconst E dX12_number_31 (v := 1) rfl ?_
  refine zb_aload_n E dX12_number_32 0 rfl rfl ?_
  refine zb_get E 128 (by decide) (zF_128 C.X) rfl zin12 19 (by decide) zw_1187 (v := .int v_at) rfl dX12_number_33 ?_
  obtain ⟨v_bad_c3, v_badPlace_c3, hc_36, h⟩ := bd2_s h
  refine zb_cVv E [.int 1, .int v_at] 128 zy_X12_fail zw_1577 (by decide) (zF_128 _ _ _ _) rfl (c_X12_fail (va_up (va_up (va_up (va_up (I 128) 19 v_at) 21 v_ended) 22 v_bad) 23 v_badPlace) rfl v_bad rfl v_badPlace rfl hc_36) (by decide) rfl rfl (by first | decide | simp [Value.category]) dX12_number_36 (cs2 := (0, 0)) rfl ?_
  refine zb_S (S2 := ((va_up I 128 (va_up (va_up (va_up (va_up (I 128) 19 v_at) 21 v_ended) 22 v_bad_c3) 23 v_badPlace_c3)), J, Rr, D)) (zS_eq ((zcgV ((zcgF (zn2 (by decide : (23 : Nat) ≠ 22))).trans zn1)).trans zn1) rfl) ?_
  refine zb_iconst E dX12_number_39 (v := 0) rfl ?_
  obtain ⟨rfl, rfl, rfl, rfl, rfl⟩ := zinj5 h
  exact zb_iret E hQ rfl ⟨Nat.zero_le _, Nat.zero_le _⟩ dX12_number_40
theorem c_X12_number_b49 {C : zC} {I : Nat → Nat → Int32} {J : Nat → Nat → Int64} {Rr : Nat → Nat → Option Nat} {D : zD} (N : Nat) (a1 : Int32) (a2 : Int32) (v_end : Int32) (e_v_end : I 128 20 = v_end) (v_tape : (Nat → Int32)) (e_v_tape : I 143 = v_tape) (rr : Int32) (y_v_at : Int32) (y_v_bad : Int32) (y_v_badPlace : Int32) (y_v_ended : Int32) (E : zE C RX12 cX12_number 5 (some .int) ({ frames := 1, cells := 0, slots := 0, locals := 25 } : Room)) (hQ : C.Q = zQi C ({ frames := 1, cells := 0, slots := 0, locals := 25 } : Room) rr ((va_up I 128 (va_up (va_up (va_up (va_up (I 128) 19 y_v_at) 21 y_v_ended) 22 y_v_bad) 23 y_v_badPlace)), J, Rr, D)) (x3 : Int32) (v_bad : Int32) (v_badPlace : Int32) (v_ended : Int32) (k85 : Int32 → Option R_pM_number) (hk85 : ∀ (v_at : Int32), k85 v_at = some (rr, y_v_at, y_v_bad, y_v_badPlace, y_v_ended) → zB C (0, 0) 85 [(0, .ref (C.X.1 + 128))] [] ((va_up I 128 (va_up (va_up (va_up (va_up (I 128) 19 v_at) 21 v_ended) 22 v_bad) 23 v_badPlace)), J, Rr, D)) (k129 : Int32 → Int32 → Option R_pM_number) (hk129 : ∀ (x4 : Int32) (v_at : Int32), k129 x4 v_at = some (rr, y_v_at, y_v_bad, y_v_badPlace, y_v_ended) → zB C (0, 0) 129 [(0, .ref (C.X.1 + 128)), (1, .int a1), (2, .int a2), (3, .int x3), (4, .int x4)] [] ((va_up I 128 (va_up (va_up (va_up (va_up (I 128) 19 v_at) 21 v_ended) 22 v_bad) 23 v_badPlace)), J, Rr, D)) : ∀ (n9 : Nat) (x4 : Int32) (v_at : Int32), pM_number_b49 N a1 a2 v_end v_tape x3 v_bad v_badPlace v_ended k85 k129 n9 x4 v_at = some (rr, y_v_at, y_v_bad, y_v_badPlace, y_v_ended) → zB C (0, 0) 49 [(0, .ref (C.X.1 + 128)), (1, .int a1), (2, .int a2), (3, .int x3), (4, .int x4)] [] ((va_up I 128 (va_up (va_up (va_up (va_up (I 128) 19 v_at) 21 v_ended) 22 v_bad) 23 v_badPlace)), J, Rr, D) := by
  refine zlp2_ind (P := fun (x4 : Int32) (v_at : Int32) => zB C (0, 0) 49 [(0, .ref (C.X.1 + 128)), (1, .int a1), (2, .int a2), (3, .int x3), (4, .int x4)] [] ((va_up I 128 (va_up (va_up (va_up (va_up (I 128) 19 v_at) 21 v_ended) 22 v_bad) 23 v_badPlace)), J, Rr, D)) (fun self ih => ?_)
  intro x4 v_at h
  refine zb_aload_n E dX12_number_49 0 rfl rfl ?_
  refine zb_get E 128 (by decide) (zF_128 C.X) rfl zin12 19 (by decide) zw_1187 (v := .int v_at) rfl dX12_number_50 ?_
  refine zb_aload_n E dX12_number_53 0 rfl rfl ?_
  refine zb_get E 128 (by decide) (zF_128 C.X) rfl zin12 20 (by decide) zw_1188 (v := .int v_end) (by exact congrArg (fun z => some (Value.int z)) e_v_end) dX12_number_54 ?_
  refine zb_icmp_ge E dX12_number_57 (tgt := 129) rfl (fun hc => ?_) (fun hc => ?_)
  · have h := if_t h hc
    exact hk129 x4 v_at h
  · have h := if_f h hc
    refine zb_aload_n E dX12_number_60 0 rfl rfl ?_
    refine zb_get E 128 (by decide) (zF_128 C.X) rfl zin12 17 (by decide) zw_1185 (v := .ref (C.X.1 + 143)) rfl dX12_number_61 ?_
    refine zb_aload_n E dX12_number_64 0 rfl rfl ?_
    refine zb_get E 128 (by decide) (zF_128 C.X) rfl zin12 19 (by decide) zw_1187 (v := .int v_at) rfl dX12_number_65 ?_
    obtain ⟨g4, h⟩ := gd_s h
    refine zb_iald E 143 (by decide) zF_143 (f := v_tape) (by exact e_v_tape) (ib_in g4) dX12_number_68 ?_
    obtain ⟨rc5, hc_69, h⟩ := bd1_s h
    refine zb_cSi E [.int (v_tape (ix v_at))] zy_X12_isDigit zw_1629 (c_X12_isDigit hc_69) (by decide) rfl rfl (by first | decide | simp [Value.category]) dX12_number_69 (cs2 := (0, 0)) rfl ?_
    refine zb_if_eq E dX12_number_72 (tgt := 129) rfl (fun hc => ?_) (fun hc => ?_)
    · have h := if_t h hc
      exact hk129 x4 v_at h
    · have h := if_f h hc
      refine zb_aload_n E dX12_number_75 0 rfl rfl ?_
      refine zb_get E 128 (by decide) (zF_128 C.X) rfl zin12 19 (by decide) zw_1187 (v := .int v_at) rfl dX12_number_76 ?_
      refine zb_iload_n E dX12_number_79 3 rfl rfl ?_
      refine zb_isub E dX12_number_80 ?_
      refine zb_iconst E dX12_number_81 (v := 5) rfl ?_
      refine zb_icmp_ne E dX12_number_82 (tgt := 96) rfl (fun hc => ?_) (fun hc => ?_)
      · have h := if_f h hc
        refine zb_bipush E dX12_number_96 (v := 10) rfl ?_
        refine zb_iload E dX12_number_98 4 rfl ?_
        refine zb_imul E dX12_number_100 ?_
        refine zb_aload_n E dX12_number_101 0 rfl rfl ?_
        refine zb_get E 128 (by decide) (zF_128 C.X) rfl zin12 17 (by decide) zw_1185 (v := .ref (C.X.1 + 143)) rfl dX12_number_102 ?_
        refine zb_aload_n E dX12_number_105 0 rfl rfl ?_
        refine zb_get E 128 (by decide) (zF_128 C.X) rfl zin12 19 (by decide) zw_1187 (v := .int v_at) rfl dX12_number_106 ?_
        refine zb_iald E 143 (by decide) zF_143 (f := v_tape) (by exact e_v_tape) (ib_in g4) dX12_number_109 ?_
        refine zb_iadd E dX12_number_110 ?_
        refine zb_bipush E dX12_number_111 (v := 48) rfl ?_
        refine zb_isub E dX12_number_113 ?_
        refine zb_istore E dX12_number_114 (by decide) (lv2 := [(4, .int (((10 * x4) + (v_tape (ix v_at))) - 48)), (0, .ref (C.X.1 + 128)), (1, .int a1), (2, .int a2), (3, .int x3)]) rfl ?_
        refine zb_aload_n E dX12_number_116 1 rfl rfl ?_
        refine zb_dup E dX12_number_117 rfl ?_
        refine zb_get E 128 (by decide) (zF_128 C.X) rfl zin12 19 (by decide) zw_1187 (v := .int v_at) rfl dX12_number_118 ?_
        refine zb_iconst E dX12_number_121 (v := 1) rfl ?_
        refine zb_iadd E dX12_number_122 ?_
        refine zb_put E 128 (by decide) (zF_128 C.X) rfl zin12 19 (by decide) zw_1187 tyX12 tyX12_ok nmX12 rfl rfl rfl (I2 := (va_up I 128 (va_up (va_up (va_up (va_up (I 128) 19 (v_at + 1)) 21 v_ended) 22 v_bad) 23 v_badPlace))) (J2 := J) ((zset12_19 C.X (va_up (va_up (va_up (va_up (I 128) 19 v_at) 21 v_ended) 22 v_bad) 23 v_badPlace) (J 128) (v_at + 1)).trans (congrArg (fun g => zf12 C.X g (J 128)) (zn4 (by decide : (23 : Nat) ≠ 19) (by decide : (22 : Nat) ≠ 19) (by decide : (21 : Nat) ≠ 19)))) (by rw [zflen12]; decide) (fun j hj => ⟨(zup_n hj).trans (zup_n hj).symm, rfl⟩) dX12_number_123 ?_
        refine zb_goto E dX12_number_126 (tgt := 49) rfl ?_
        refine zb_sub [1, 2, 3, 4, 0] rfl ?_
        exact ih (((10 * x4) + (v_tape (ix v_at))) - 48) (v_at + 1) h
      · have h := if_t h hc
        refine zb_sub [0] rfl ?_
        exact hk85 v_at h
theorem c_X12_number_b85 {C : zC} {I : Nat → Nat → Int32} {J : Nat → Nat → Int64} {Rr : Nat → Nat → Option Nat} {D : zD} (N : Nat) (a1 : Int32) (a2 : Int32) (v_end : Int32) (e_v_end : I 128 20 = v_end) (v_tape : (Nat → Int32)) (e_v_tape : I 143 = v_tape) (rr : Int32) (y_v_at : Int32) (y_v_bad : Int32) (y_v_badPlace : Int32) (y_v_ended : Int32) (E : zE C RX12 cX12_number 5 (some .int) ({ frames := 1, cells := 0, slots := 0, locals := 25 } : Room)) (hQ : C.Q = zQi C ({ frames := 1, cells := 0, slots := 0, locals := 25 } : Room) rr ((va_up I 128 (va_up (va_up (va_up (va_up (I 128) 19 y_v_at) 21 y_v_ended) 22 y_v_bad) 23 y_v_badPlace)), J, Rr, D)) (v_at : Int32) (v_bad : Int32) (v_badPlace : Int32) (v_ended : Int32) (h : pM_number_b85 N a1 a2 v_end v_tape v_at v_bad v_badPlace v_ended = some (rr, y_v_at, y_v_bad, y_v_badPlace, y_v_ended)) : zB C (0, 0) 85 [(0, .ref (C.X.1 + 128))] [] ((va_up I 128 (va_up (va_up (va_up (va_up (I 128) 19 v_at) 21 v_ended) 22 v_bad) 23 v_badPlace)), J, Rr, D) := by
  refine zb_aload_n E dX12_number_85 0 rfl rfl ?_
  refine zb_iconst E dX12_number_86 (v := 1) rfl ?_
  refine zb_aload_n E dX12_number_87 0 rfl rfl ?_
  refine zb_get E 128 (by decide) (zF_128 C.X) rfl zin12 19 (by decide) zw_1187 (v := .int v_at) rfl dX12_number_88 ?_
  obtain ⟨v_bad_c8, v_badPlace_c8, hc_91, h⟩ := bd2_s h
  refine zb_cVv E [.int 1, .int v_at] 128 zy_X12_fail zw_1577 (by decide) (zF_128 _ _ _ _) rfl (c_X12_fail (va_up (va_up (va_up (va_up (I 128) 19 v_at) 21 v_ended) 22 v_bad) 23 v_badPlace) rfl v_bad rfl v_badPlace rfl hc_91) (by decide) rfl rfl (by first | decide | simp [Value.category]) dX12_number_91 (cs2 := (0, 0)) rfl ?_
  refine zb_S (S2 := ((va_up I 128 (va_up (va_up (va_up (va_up (I 128) 19 v_at) 21 v_ended) 22 v_bad_c8) 23 v_badPlace_c8)), J, Rr, D)) (zS_eq ((zcgV ((zcgF (zn2 (by decide : (23 : Nat) ≠ 22))).trans zn1)).trans zn1) rfl) ?_
  refine zb_iconst E dX12_number_94 (v := 0) rfl ?_
  obtain ⟨rfl, rfl, rfl, rfl, rfl⟩ := zinj5 h
  exact zb_iret E hQ rfl ⟨Nat.zero_le _, Nat.zero_le _⟩ dX12_number_95
theorem c_X12_number_b129 {C : zC} {I : Nat → Nat → Int32} {J : Nat → Nat → Int64} {Rr : Nat → Nat → Option Nat} {D : zD} (N : Nat) (a1 : Int32) (a2 : Int32) (v_end : Int32) (e_v_end : I 128 20 = v_end) (v_tape : (Nat → Int32)) (e_v_tape : I 143 = v_tape) (rr : Int32) (y_v_at : Int32) (y_v_bad : Int32) (y_v_badPlace : Int32) (y_v_ended : Int32) (E : zE C RX12 cX12_number 5 (some .int) ({ frames := 1, cells := 0, slots := 0, locals := 25 } : Room)) (hQ : C.Q = zQi C ({ frames := 1, cells := 0, slots := 0, locals := 25 } : Room) rr ((va_up I 128 (va_up (va_up (va_up (va_up (I 128) 19 y_v_at) 21 y_v_ended) 22 y_v_bad) 23 y_v_badPlace)), J, Rr, D)) (x3 : Int32) (x4 : Int32) (v_at : Int32) (v_bad : Int32) (v_badPlace : Int32) (v_ended : Int32) (h : pM_number_b129 N a1 a2 v_end v_tape x3 x4 v_at v_bad v_badPlace v_ended = some (rr, y_v_at, y_v_bad, y_v_badPlace, y_v_ended)) : zB C (0, 0) 129 [(0, .ref (C.X.1 + 128)), (1, .int a1), (2, .int a2), (3, .int x3), (4, .int x4)] [] ((va_up I 128 (va_up (va_up (va_up (va_up (I 128) 19 v_at) 21 v_ended) 22 v_bad) 23 v_badPlace)), J, Rr, D) := by
  refine zb_aload_n E dX12_number_129 0 rfl rfl ?_
  refine zb_aload_n E dX12_number_130 0 rfl rfl ?_
  refine zb_get E 128 (by decide) (zF_128 C.X) rfl zin12 19 (by decide) zw_1187 (v := .int v_at) rfl dX12_number_131 ?_
  refine zb_put E 128 (by decide) (zF_128 C.X) rfl zin12 21 (by decide) zw_1189 tyX12 tyX12_ok nmX12 rfl rfl rfl (I2 := (va_up I 128 (va_up (va_up (va_up (va_up (I 128) 19 v_at) 21 v_at) 22 v_bad) 23 v_badPlace))) (J2 := J) ((zset12_21 C.X (va_up (va_up (va_up (va_up (I 128) 19 v_at) 21 v_ended) 22 v_bad) 23 v_badPlace) (J 128) v_at).trans (congrArg (fun g => zf12 C.X g (J 128)) (zn3 (by decide : (23 : Nat) ≠ 21) (by decide : (22 : Nat) ≠ 21)))) (by rw [zflen12]; decide) (fun j hj => ⟨(zup_n hj).trans (zup_n hj).symm, rfl⟩) dX12_number_134 ?_
  refine zb_iload E dX12_number_137 4 rfl ?_
  refine zb_i2l E dX12_number_139 ?_
  refine zb_iload_n E dX12_number_140 1 rfl rfl ?_
  refine zb_i2l E dX12_number_141 ?_
  refine zb_iload_n E dX12_number_142 2 rfl rfl ?_
  refine zb_i2l E dX12_number_143 ?_
  obtain ⟨rc6, hc_144, h⟩ := bd1_s h
  refine zb_cSi E [.long (i2l x4), .long (i2l a1), .long (i2l a2)] zy_X12_isIn zw_1429 (c_X12_isIn hc_144) (by decide) rfl rfl (by first | decide | simp [Value.category]) dX12_number_144 (cs2 := (0, 0)) rfl ?_
  refine zb_if_ne E dX12_number_147 (tgt := 156) rfl (fun hc => ?_) (fun hc => ?_)
  · have h := if_f h hc
    refine zb_iload E dX12_number_156 4 rfl ?_
    obtain ⟨rfl, rfl, rfl, rfl, rfl⟩ := zinj5 h
    exact zb_iret E hQ rfl ⟨Nat.zero_le _, Nat.zero_le _⟩ dX12_number_158
  · have h := if_t h hc
    refine zb_aload_n E dX12_number_150 0 rfl rfl ?_
    refine zb_iconst E dX12_number_151 (v := 2) rfl ?_
    refine zb_iload_n E dX12_number_152 3 rfl rfl ?_
    obtain ⟨v_bad_c7, v_badPlace_c7, hc_153, h⟩ := bd2_s h
    refine zb_cVv E [.int 2, .int x3] 128 zy_X12_fail zw_1577 (by decide) (zF_128 _ _ _ _) rfl (c_X12_fail (va_up (va_up (va_up (va_up (I 128) 19 v_at) 21 v_at) 22 v_bad) 23 v_badPlace) rfl v_bad rfl v_badPlace rfl hc_153) (by decide) rfl rfl (by first | decide | simp [Value.category]) dX12_number_153 (cs2 := (0, 0)) rfl ?_
    refine zb_S (S2 := ((va_up I 128 (va_up (va_up (va_up (va_up (I 128) 19 v_at) 21 v_at) 22 v_bad_c7) 23 v_badPlace_c7)), J, Rr, D)) (zS_eq ((zcgV ((zcgF (zn2 (by decide : (23 : Nat) ≠ 22))).trans zn1)).trans zn1) rfl) ?_
    refine zb_iload E dX12_number_156 4 rfl ?_
    obtain ⟨rfl, rfl, rfl, rfl, rfl⟩ := zinj5 h
    exact zb_iret E hQ rfl ⟨Nat.zero_le _, Nat.zero_le _⟩ dX12_number_158
theorem c_X12_number_0 {C : zC} {I : Nat → Nat → Int32} {J : Nat → Nat → Int64} {Rr : Nat → Nat → Option Nat} {D : zD} (N : Nat) (a1 : Int32) (a2 : Int32) (v_end : Int32) (e_v_end : I 128 20 = v_end) (v_tape : (Nat → Int32)) (e_v_tape : I 143 = v_tape) (rr : Int32) (y_v_at : Int32) (y_v_bad : Int32) (y_v_badPlace : Int32) (y_v_ended : Int32) (E : zE C RX12 cX12_number 5 (some .int) ({ frames := 1, cells := 0, slots := 0, locals := 25 } : Room)) (hQ : C.Q = zQi C ({ frames := 1, cells := 0, slots := 0, locals := 25 } : Room) rr ((va_up I 128 (va_up (va_up (va_up (va_up (I 128) 19 y_v_at) 21 y_v_ended) 22 y_v_bad) 23 y_v_badPlace)), J, Rr, D)) (v_at : Int32) (v_bad : Int32) (v_badPlace : Int32) (v_ended : Int32) (h : pM_number N a1 a2 v_at v_bad v_badPlace v_end v_ended v_tape = some (rr, y_v_at, y_v_bad, y_v_badPlace, y_v_ended)) : zB C (0, 0) 0 [(0, .ref (C.X.1 + 128)), (1, .int a1), (2, .int a2)] [] ((va_up I 128 (va_up (va_up (va_up (va_up (I 128) 19 v_at) 21 v_ended) 22 v_bad) 23 v_badPlace)), J, Rr, D) := by
  refine zb_aload_n E dX12_number_0 0 rfl rfl ?_
  refine zb_get E 128 (by decide) (zF_128 C.X) rfl zin12 22 (by decide) zw_1190 (v := .int v_bad) rfl dX12_number_1 ?_
  refine zb_if_eq E dX12_number_4 (tgt := 9) rfl (fun hc => ?_) (fun hc => ?_)
  · have h := if_t h hc
    refine zb_aload_n E dX12_number_9 0 rfl rfl ?_
    obtain ⟨rc1, v_at_c1, hc_10, h⟩ := bd2_s h
    refine zb_cVi E [] 128 zy_X12_look zw_1569 (by decide) (zF_128 _ _ _ _) rfl (c_X12_look (va_up (va_up (va_up (va_up (I 128) 19 v_at) 21 v_ended) 22 v_bad) 23 v_badPlace) rfl v_end (by exact e_v_end) v_tape (by exact e_v_tape) v_at rfl hc_10) (by decide) rfl rfl (by first | decide | simp [Value.category]) dX12_number_10 (cs2 := (0, 0)) rfl ?_
    refine zb_S (S2 := ((va_up I 128 (va_up (va_up (va_up (va_up (I 128) 19 v_at_c1) 21 v_ended) 22 v_bad) 23 v_badPlace)), J, Rr, D)) (zS_eq ((zcgV (zn4 (by decide : (23 : Nat) ≠ 19) (by decide : (22 : Nat) ≠ 19) (by decide : (21 : Nat) ≠ 19))).trans zn1) rfl) ?_
    obtain ⟨rc2, hc_13, h⟩ := bd1_s h
    refine zb_cSi E [.int rc1] zy_X12_isDigit zw_1629 (c_X12_isDigit hc_13) (by decide) rfl rfl (by first | decide | simp [Value.category]) dX12_number_13 (cs2 := (0, 0)) rfl ?_
    refine zb_if_eq E dX12_number_16 (tgt := 30) rfl (fun hc => ?_) (fun hc => ?_)
    · have h := if_t h hc
      refine zb_sub [0] rfl ?_
      exact c_X12_number_b30 N a1 a2 v_end e_v_end v_tape e_v_tape rr y_v_at y_v_bad y_v_badPlace y_v_ended E hQ v_at_c1 v_bad v_badPlace v_ended h
    · have h := if_f h hc
      refine zb_aload_n E dX12_number_19 0 rfl rfl ?_
      refine zb_get E 128 (by decide) (zF_128 C.X) rfl zin12 19 (by decide) zw_1187 (v := .int v_at_c1) rfl dX12_number_20 ?_
      refine zb_aload_n E dX12_number_23 0 rfl rfl ?_
      refine zb_get E 128 (by decide) (zF_128 C.X) rfl zin12 21 (by decide) zw_1189 (v := .int v_ended) rfl dX12_number_24 ?_
      refine zb_icmp_ne E dX12_number_27 (tgt := 41) rfl (fun hc => ?_) (fun hc => ?_)
      · have h := if_f h hc
        refine zb_aload_n E dX12_number_41 0 rfl rfl ?_
        refine zb_get E 128 (by decide) (zF_128 C.X) rfl zin12 19 (by decide) zw_1187 (v := .int v_at_c1) rfl dX12_number_42 ?_
        refine zb_istore_n E dX12_number_45 rfl (by decide) (lv2 := [(3, .int v_at_c1), (0, .ref (C.X.1 + 128)), (1, .int a1), (2, .int a2)]) rfl ?_
        refine zb_iconst E dX12_number_46 (v := 0) rfl ?_
        refine zb_istore E dX12_number_47 (by decide) (lv2 := [(4, .int 0), (3, .int v_at_c1), (0, .ref (C.X.1 + 128)), (1, .int a1), (2, .int a2)]) rfl ?_
        refine zb_sub [2, 3, 4, 1, 0] rfl ?_
        exact c_X12_number_b49 N a1 a2 v_end e_v_end v_tape e_v_tape rr y_v_at y_v_bad y_v_badPlace y_v_ended E hQ v_at_c1 v_bad v_badPlace v_ended _ (fun v_at_z1 h => c_X12_number_b85 N a1 a2 v_end e_v_end v_tape e_v_tape rr y_v_at y_v_bad y_v_badPlace y_v_ended E hQ v_at_z1 v_bad v_badPlace v_ended h) _ (fun x4_z2 v_at_z3 h => c_X12_number_b129 N a1 a2 v_end e_v_end v_tape e_v_tape rr y_v_at y_v_bad y_v_badPlace y_v_ended E hQ v_at_c1 x4_z2 v_at_z3 v_bad v_badPlace v_ended h) _ 0 v_at_c1 h
      · have h := if_t h hc
        refine zb_sub [0] rfl ?_
        exact c_X12_number_b30 N a1 a2 v_end e_v_end v_tape e_v_tape rr y_v_at y_v_bad y_v_badPlace y_v_ended E hQ v_at_c1 v_bad v_badPlace v_ended h
  · have h := if_f h hc
    refine zb_iconst E dX12_number_7 (v := 0) rfl ?_
    obtain ⟨rfl, rfl, rfl, rfl, rfl⟩ := zinj5 h
    exact zb_iret E hQ rfl ⟨Nat.zero_le _, Nat.zero_le _⟩ dX12_number_8
theorem c_X12_number {l : Launch} {X : zX} {I : Nat → Nat → Int32} {J : Nat → Nat → Int64} {Rr : Nat → Nat → Option Nat} {D : zD} {N : Nat} {a1 : Int32} {a2 : Int32} (oI128 : Nat → Int32) (eoI128 : I 128 = oI128) (v_end : Int32) (e_v_end : I 128 20 = v_end) (v_tape : (Nat → Int32)) (e_v_tape : I 143 = v_tape) (v_at : Int32) (e_v_at : I 128 19 = v_at) (v_bad : Int32) (e_v_bad : I 128 22 = v_bad) (v_badPlace : Int32) (e_v_badPlace : I 128 23 = v_badPlace) (v_ended : Int32) (e_v_ended : I 128 21 = v_ended) {rr : Int32} {y_v_at : Int32} {y_v_bad : Int32} {y_v_badPlace : Int32} {y_v_ended : Int32} (h : pM_number N a1 a2 v_at v_bad v_badPlace v_end v_ended v_tape = some (rr, y_v_at, y_v_bad, y_v_badPlace, y_v_ended)) : zMi l yX12_number cX12_number 5 (some .int) ({ frames := 1, cells := 0, slots := 0, locals := 25 } : Room) X [.ref (X.1 + 128), .int a1, .int a2] (I, J, Rr, D) rr ((va_up I 128 (va_up (va_up (va_up (va_up oI128 19 y_v_at) 21 y_v_ended) 22 y_v_bad) 23 y_v_badPlace)), J, Rr, D) := by
  subst eoI128
  refine zMi.of (by decide) (Nat.le_of_ble_eq_true rfl) (fun C E hl hX hQ => ?_)
  subst hl
  subst hX
  have eI0 : (va_up I 128 (va_up (va_up (va_up (va_up (I 128) 19 v_at) 21 v_ended) 22 v_bad) 23 v_badPlace)) = I := by rw [zup_idE e_v_at, zup_idE e_v_ended, zup_idE e_v_bad, zup_idE e_v_badPlace, zup_id]
  have eJ0 : J = J := rfl
  refine zb_S (S2 := ((va_up I 128 (va_up (va_up (va_up (va_up (I 128) 19 v_at) 21 v_ended) 22 v_bad) 23 v_badPlace)), J, Rr, D)) (zS_eq eI0.symm eJ0.symm) ?_
  exact c_X12_number_0 N a1 a2 v_end e_v_end v_tape e_v_tape rr y_v_at y_v_bad y_v_badPlace y_v_ended E hQ v_at v_bad v_badPlace v_ended h
-- ChequeredClothModel.code
theorem dX12_code_0 : decode cX12_code 0 = .ok (.aload_n 0, 1) := by decide +kernel
theorem dX12_code_1 : decode cX12_code 1 = .ok (.getfield 159, 3) := by decide +kernel
theorem dX12_code_4 : decode cX12_code 4 = .ok (.iconst 0, 1) := by decide +kernel
theorem dX12_code_5 : decode cX12_code 5 = .ok (.aload_n 0, 1) := by decide +kernel
theorem dX12_code_6 : decode cX12_code 6 = .ok (.getfield 314, 3) := by decide +kernel
theorem dX12_code_9 : decode cX12_code 9 = .ok (.iadd, 1) := by decide +kernel
theorem dX12_code_10 : decode cX12_code 10 = .ok (.iload_n 1, 1) := by decide +kernel
theorem dX12_code_11 : decode cX12_code 11 = .ok (.iastore, 1) := by decide +kernel
theorem dX12_code_12 : decode cX12_code 12 = .ok (.aload_n 0, 1) := by decide +kernel
theorem dX12_code_13 : decode cX12_code 13 = .ok (.dup, 1) := by decide +kernel
theorem dX12_code_14 : decode cX12_code 14 = .ok (.getfield 314, 3) := by decide +kernel
theorem dX12_code_17 : decode cX12_code 17 = .ok (.iconst 1, 1) := by decide +kernel
theorem dX12_code_18 : decode cX12_code 18 = .ok (.iadd, 1) := by decide +kernel
theorem dX12_code_19 : decode cX12_code 19 = .ok (.putfield 314, 3) := by decide +kernel
theorem dX12_code_22 : decode cX12_code 22 = .ok (.return_, 1) := by decide +kernel
theorem zy_X12_code : zYv yX12_code cX12_code 2 none 1 := ⟨zw_1618, zws_67, zw_12, zw_1619, by decide, by decide, by decide⟩
theorem c_X12_code_0 {C : zC} {I : Nat → Nat → Int32} {J : Nat → Nat → Int64} {Rr : Nat → Nat → Option Nat} {D : zD} (a1 : Int32) (y_v_coded : Int32) (y_v_codes : (Nat → Int32)) (E : zE C RX12 cX12_code 2 none ({ frames := 0, cells := 0, slots := 0, locals := 0 } : Room)) (hQ : C.Q = zQv C ({ frames := 0, cells := 0, slots := 0, locals := 0 } : Room) ((va_up (va_up I 128 (va_up (I 128) 56 y_v_coded)) 173 y_v_codes), J, Rr, D)) (v_coded : Int32) (v_codes : (Nat → Int32)) (h : pM_code a1 v_coded v_codes = some (y_v_coded, y_v_codes)) : zB C (0, 0) 0 [(0, .ref (C.X.1 + 128)), (1, .int a1)] [] ((va_up (va_up I 128 (va_up (I 128) 56 v_coded)) 173 v_codes), J, Rr, D) := by
  refine zb_aload_n E dX12_code_0 0 rfl rfl ?_
  refine zb_get E 128 (by decide) (zF_128 C.X) rfl zin12 55 (by decide) zw_1223 (v := .ref (C.X.1 + 173)) rfl dX12_code_1 ?_
  refine zb_iconst E dX12_code_4 (v := 0) rfl ?_
  refine zb_aload_n E dX12_code_5 0 rfl rfl ?_
  refine zb_get E 128 (by decide) (zF_128 C.X) rfl zin12 56 (by decide) zw_1224 (v := .int v_coded) rfl dX12_code_6 ?_
  refine zb_iadd E dX12_code_9 ?_
  refine zb_iload_n E dX12_code_10 1 rfl rfl ?_
  obtain ⟨g1, h⟩ := gd_s h
  refine zb_iast E 173 (by decide) zF_173 (f := v_codes) rfl (ib_in g1) dX12_code_11 (I2 := (va_up (va_up I 128 (va_up (I 128) 56 v_coded)) 173 (upd v_codes (ix (0 + v_coded)) a1))) zn1 ?_
  refine zb_aload_n E dX12_code_12 0 rfl rfl ?_
  refine zb_dup E dX12_code_13 rfl ?_
  refine zb_get E 128 (by decide) (zF_128 C.X) rfl zin12 56 (by decide) zw_1224 (v := .int v_coded) rfl dX12_code_14 ?_
  refine zb_iconst E dX12_code_17 (v := 1) rfl ?_
  refine zb_iadd E dX12_code_18 ?_
  refine zb_put E 128 (by decide) (zF_128 C.X) rfl zin12 56 (by decide) zw_1224 tyX12 tyX12_ok nmX12 rfl rfl rfl (I2 := (va_up (va_up I 128 (va_up (I 128) 56 (v_coded + 1))) 173 (upd v_codes (ix (0 + v_coded)) a1))) (J2 := J) ((zset12_56 C.X (va_up (I 128) 56 v_coded) (J 128) (v_coded + 1)).trans (congrArg (fun g => zf12 C.X g (J 128)) zn1)) (by rw [zflen12]; decide) (fun j hj => ⟨zup_cg ((zup_n hj).trans (zup_n hj).symm), rfl⟩) dX12_code_19 ?_
  obtain ⟨rfl, rfl⟩ := zinj2 h
  exact zb_vret E hQ rfl ⟨Nat.zero_le _, Nat.zero_le _⟩ dX12_code_22
theorem c_X12_code {l : Launch} {X : zX} {I : Nat → Nat → Int32} {J : Nat → Nat → Int64} {Rr : Nat → Nat → Option Nat} {D : zD} {a1 : Int32} (oI128 : Nat → Int32) (eoI128 : I 128 = oI128) (v_coded : Int32) (e_v_coded : I 128 56 = v_coded) (v_codes : (Nat → Int32)) (e_v_codes : I 173 = v_codes) {y_v_coded : Int32} {y_v_codes : (Nat → Int32)} (h : pM_code a1 v_coded v_codes = some (y_v_coded, y_v_codes)) : zMv l yX12_code cX12_code 2 none ({ frames := 0, cells := 0, slots := 0, locals := 0 } : Room) X [.ref (X.1 + 128), .int a1] (I, J, Rr, D) ((va_up (va_up I 128 (va_up oI128 56 y_v_coded)) 173 y_v_codes), J, Rr, D) := by
  subst eoI128
  refine zMv.of (by decide) (Nat.le_of_ble_eq_true rfl) (fun C E hl hX hQ => ?_)
  subst hl
  subst hX
  have eI0 : (va_up (va_up I 128 (va_up (I 128) 56 v_coded)) 173 v_codes) = I := by rw [zup_idE e_v_coded, zup_id, zup_idE e_v_codes]
  have eJ0 : J = J := rfl
  refine zb_S (S2 := ((va_up (va_up I 128 (va_up (I 128) 56 v_coded)) 173 v_codes), J, Rr, D)) (zS_eq eI0.symm eJ0.symm) ?_
  exact c_X12_code_0 a1 y_v_coded y_v_codes E hQ v_coded v_codes h
-- ChequeredClothModel.opens
theorem dX12_opens_0 : decode cX12_opens 0 = .ok (.aload_n 0, 1) := by decide +kernel
theorem dX12_opens_1 : decode cX12_opens 1 = .ok (.getfield 317, 3) := by decide +kernel
theorem dX12_opens_4 : decode cX12_opens 4 = .ok (.bipush 6, 2) := by decide +kernel
theorem dX12_opens_6 : decode cX12_opens 6 = .ok (.if_icmp .ne 10, 3) := by decide +kernel
theorem dX12_opens_9 : decode cX12_opens 9 = .ok (.aload_n 0, 1) := by decide +kernel
theorem dX12_opens_10 : decode cX12_opens 10 = .ok (.iconst 3, 1) := by decide +kernel
theorem dX12_opens_11 : decode cX12_opens 11 = .ok (.iload_n 2, 1) := by decide +kernel
theorem dX12_opens_12 : decode cX12_opens 12 = .ok (.invokevirtual 304, 3) := by decide +kernel
theorem dX12_opens_15 : decode cX12_opens 15 = .ok (.return_, 1) := by decide +kernel
theorem dX12_opens_16 : decode cX12_opens 16 = .ok (.aload_n 0, 1) := by decide +kernel
theorem dX12_opens_17 : decode cX12_opens 17 = .ok (.dup, 1) := by decide +kernel
theorem dX12_opens_18 : decode cX12_opens 18 = .ok (.getfield 317, 3) := by decide +kernel
theorem dX12_opens_21 : decode cX12_opens 21 = .ok (.iconst 1, 1) := by decide +kernel
theorem dX12_opens_22 : decode cX12_opens 22 = .ok (.iadd, 1) := by decide +kernel
theorem dX12_opens_23 : decode cX12_opens 23 = .ok (.putfield 317, 3) := by decide +kernel
theorem dX12_opens_26 : decode cX12_opens 26 = .ok (.aload_n 0, 1) := by decide +kernel
theorem dX12_opens_27 : decode cX12_opens 27 = .ok (.getfield 162, 3) := by decide +kernel
theorem dX12_opens_30 : decode cX12_opens 30 = .ok (.aload_n 0, 1) := by decide +kernel
theorem dX12_opens_31 : decode cX12_opens 31 = .ok (.getfield 320, 3) := by decide +kernel
theorem dX12_opens_34 : decode cX12_opens 34 = .ok (.iload_n 1, 1) := by decide +kernel
theorem dX12_opens_35 : decode cX12_opens 35 = .ok (.iastore, 1) := by decide +kernel
theorem dX12_opens_36 : decode cX12_opens 36 = .ok (.aload_n 0, 1) := by decide +kernel
theorem dX12_opens_37 : decode cX12_opens 37 = .ok (.dup, 1) := by decide +kernel
theorem dX12_opens_38 : decode cX12_opens 38 = .ok (.getfield 320, 3) := by decide +kernel
theorem dX12_opens_41 : decode cX12_opens 41 = .ok (.iconst 1, 1) := by decide +kernel
theorem dX12_opens_42 : decode cX12_opens 42 = .ok (.iadd, 1) := by decide +kernel
theorem dX12_opens_43 : decode cX12_opens 43 = .ok (.putfield 320, 3) := by decide +kernel
theorem dX12_opens_46 : decode cX12_opens 46 = .ok (.return_, 1) := by decide +kernel
theorem zy_X12_opens : zYv yX12_opens cX12_opens 3 none 2 := ⟨zw_1602, zws_63, zw_12, zw_1603, by decide, by decide, by decide⟩
theorem c_X12_opens_0 {C : zC} {I : Nat → Nat → Int32} {J : Nat → Nat → Int64} {Rr : Nat → Nat → Option Nat} {D : zD} (a1 : Int32) (a2 : Int32) (y_v_bad : Int32) (y_v_badPlace : Int32) (y_v_open : Int32) (y_v_waits : Int32) (y_v_wait : (Nat → Int32)) (E : zE C RX12 cX12_opens 3 none ({ frames := 1, cells := 0, slots := 0, locals := 22 } : Room)) (hQ : C.Q = zQv C ({ frames := 1, cells := 0, slots := 0, locals := 22 } : Room) ((va_up (va_up I 128 (va_up (va_up (va_up (va_up (I 128) 22 y_v_bad) 23 y_v_badPlace) 58 y_v_waits) 59 y_v_open)) 174 y_v_wait), J, Rr, D)) (v_bad : Int32) (v_badPlace : Int32) (v_open : Int32) (v_waits : Int32) (v_wait : (Nat → Int32)) (h : pM_opens a1 a2 v_bad v_badPlace v_open v_waits v_wait = some (y_v_bad, y_v_badPlace, y_v_open, y_v_waits, y_v_wait)) : zB C (0, 0) 0 [(0, .ref (C.X.1 + 128)), (1, .int a1), (2, .int a2)] [] ((va_up (va_up I 128 (va_up (va_up (va_up (va_up (I 128) 22 v_bad) 23 v_badPlace) 58 v_waits) 59 v_open)) 174 v_wait), J, Rr, D) := by
  refine zb_aload_n E dX12_opens_0 0 rfl rfl ?_
  refine zb_get E 128 (by decide) (zF_128 C.X) rfl zin12 59 (by decide) zw_1227 (v := .int v_open) rfl dX12_opens_1 ?_
  refine zb_bipush E dX12_opens_4 (v := 6) rfl ?_
  refine zb_icmp_ne E dX12_opens_6 (tgt := 16) rfl (fun hc => ?_) (fun hc => ?_)
  · have h := if_f h hc
    refine zb_aload_n E dX12_opens_16 0 rfl rfl ?_
    refine zb_dup E dX12_opens_17 rfl ?_
    refine zb_get E 128 (by decide) (zF_128 C.X) rfl zin12 59 (by decide) zw_1227 (v := .int v_open) rfl dX12_opens_18 ?_
    refine zb_iconst E dX12_opens_21 (v := 1) rfl ?_
    refine zb_iadd E dX12_opens_22 ?_
    refine zb_put E 128 (by decide) (zF_128 C.X) rfl zin12 59 (by decide) zw_1227 tyX12 tyX12_ok nmX12 rfl rfl rfl (I2 := (va_up (va_up I 128 (va_up (va_up (va_up (va_up (I 128) 22 v_bad) 23 v_badPlace) 58 v_waits) 59 (v_open + 1))) 174 v_wait)) (J2 := J) ((zset12_59 C.X (va_up (va_up (va_up (va_up (I 128) 22 v_bad) 23 v_badPlace) 58 v_waits) 59 v_open) (J 128) (v_open + 1)).trans (congrArg (fun g => zf12 C.X g (J 128)) zn1)) (by rw [zflen12]; decide) (fun j hj => ⟨zup_cg ((zup_n hj).trans (zup_n hj).symm), rfl⟩) dX12_opens_23 ?_
    refine zb_aload_n E dX12_opens_26 0 rfl rfl ?_
    refine zb_get E 128 (by decide) (zF_128 C.X) rfl zin12 57 (by decide) zw_1225 (v := .ref (C.X.1 + 174)) rfl dX12_opens_27 ?_
    refine zb_aload_n E dX12_opens_30 0 rfl rfl ?_
    refine zb_get E 128 (by decide) (zF_128 C.X) rfl zin12 58 (by decide) zw_1226 (v := .int v_waits) rfl dX12_opens_31 ?_
    refine zb_iload_n E dX12_opens_34 1 rfl rfl ?_
    obtain ⟨g1, h⟩ := gd_s h
    refine zb_iast E 174 (by decide) zF_174 (f := v_wait) rfl (ib_in g1) dX12_opens_35 (I2 := (va_up (va_up I 128 (va_up (va_up (va_up (va_up (I 128) 22 v_bad) 23 v_badPlace) 58 v_waits) 59 (v_open + 1))) 174 (upd v_wait (ix v_waits) a1))) zn1 ?_
    refine zb_aload_n E dX12_opens_36 0 rfl rfl ?_
    refine zb_dup E dX12_opens_37 rfl ?_
    refine zb_get E 128 (by decide) (zF_128 C.X) rfl zin12 58 (by decide) zw_1226 (v := .int v_waits) rfl dX12_opens_38 ?_
    refine zb_iconst E dX12_opens_41 (v := 1) rfl ?_
    refine zb_iadd E dX12_opens_42 ?_
    refine zb_put E 128 (by decide) (zF_128 C.X) rfl zin12 58 (by decide) zw_1226 tyX12 tyX12_ok nmX12 rfl rfl rfl (I2 := (va_up (va_up I 128 (va_up (va_up (va_up (va_up (I 128) 22 v_bad) 23 v_badPlace) 58 (v_waits + 1)) 59 (v_open + 1))) 174 (upd v_wait (ix v_waits) a1))) (J2 := J) ((zset12_58 C.X (va_up (va_up (va_up (va_up (I 128) 22 v_bad) 23 v_badPlace) 58 v_waits) 59 (v_open + 1)) (J 128) (v_waits + 1)).trans (congrArg (fun g => zf12 C.X g (J 128)) (zn2 (by decide : (59 : Nat) ≠ 58)))) (by rw [zflen12]; decide) (fun j hj => ⟨zup_cg ((zup_n hj).trans (zup_n hj).symm), rfl⟩) dX12_opens_43 ?_
    obtain ⟨rfl, rfl, rfl, rfl, rfl⟩ := zinj5 h
    exact zb_vret E hQ rfl ⟨Nat.zero_le _, Nat.zero_le _⟩ dX12_opens_46
  · have h := if_t h hc
    refine zb_aload_n E dX12_opens_9 0 rfl rfl ?_
    refine zb_iconst E dX12_opens_10 (v := 3) rfl ?_
    refine zb_iload_n E dX12_opens_11 2 rfl rfl ?_
    obtain ⟨v_bad_c2, v_badPlace_c2, hc_12, h⟩ := bd2_s h
    refine zb_cVv E [.int 3, .int a2] 128 zy_X12_fail zw_1577 (by decide) (zF_128 _ _ _ _) rfl (c_X12_fail (va_up (va_up (va_up (va_up (I 128) 22 v_bad) 23 v_badPlace) 58 v_waits) 59 v_open) rfl v_bad rfl v_badPlace rfl hc_12) (by decide) rfl rfl (by first | decide | simp [Value.category]) dX12_opens_12 (cs2 := (0, 0)) rfl ?_
    refine zb_S (S2 := ((va_up (va_up I 128 (va_up (va_up (va_up (va_up (I 128) 22 v_bad_c2) 23 v_badPlace_c2) 58 v_waits) 59 v_open)) 174 v_wait), J, Rr, D)) (zS_eq ((zcgV ((zcgF (zn4 (by decide : (59 : Nat) ≠ 22) (by decide : (58 : Nat) ≠ 22) (by decide : (23 : Nat) ≠ 22))).trans (zn3 (by decide : (59 : Nat) ≠ 23) (by decide : (58 : Nat) ≠ 23)))).trans (zn2 (by decide : (174 : Nat) ≠ 128))) rfl) ?_
    obtain ⟨rfl, rfl, rfl, rfl, rfl⟩ := zinj5 h
    exact zb_vret E hQ rfl ⟨Nat.zero_le _, Nat.zero_le _⟩ dX12_opens_15
theorem c_X12_opens {l : Launch} {X : zX} {I : Nat → Nat → Int32} {J : Nat → Nat → Int64} {Rr : Nat → Nat → Option Nat} {D : zD} {a1 : Int32} {a2 : Int32} (oI128 : Nat → Int32) (eoI128 : I 128 = oI128) (v_bad : Int32) (e_v_bad : I 128 22 = v_bad) (v_badPlace : Int32) (e_v_badPlace : I 128 23 = v_badPlace) (v_open : Int32) (e_v_open : I 128 59 = v_open) (v_waits : Int32) (e_v_waits : I 128 58 = v_waits) (v_wait : (Nat → Int32)) (e_v_wait : I 174 = v_wait) {y_v_bad : Int32} {y_v_badPlace : Int32} {y_v_open : Int32} {y_v_waits : Int32} {y_v_wait : (Nat → Int32)} (h : pM_opens a1 a2 v_bad v_badPlace v_open v_waits v_wait = some (y_v_bad, y_v_badPlace, y_v_open, y_v_waits, y_v_wait)) : zMv l yX12_opens cX12_opens 3 none ({ frames := 1, cells := 0, slots := 0, locals := 22 } : Room) X [.ref (X.1 + 128), .int a1, .int a2] (I, J, Rr, D) ((va_up (va_up I 128 (va_up (va_up (va_up (va_up oI128 22 y_v_bad) 23 y_v_badPlace) 58 y_v_waits) 59 y_v_open)) 174 y_v_wait), J, Rr, D) := by
  subst eoI128
  refine zMv.of (by decide) (Nat.le_of_ble_eq_true rfl) (fun C E hl hX hQ => ?_)
  subst hl
  subst hX
  have eI0 : (va_up (va_up I 128 (va_up (va_up (va_up (va_up (I 128) 22 v_bad) 23 v_badPlace) 58 v_waits) 59 v_open)) 174 v_wait) = I := by rw [zup_idE e_v_bad, zup_idE e_v_badPlace, zup_idE e_v_waits, zup_idE e_v_open, zup_id, zup_idE e_v_wait]
  have eJ0 : J = J := rfl
  refine zb_S (S2 := ((va_up (va_up I 128 (va_up (va_up (va_up (va_up (I 128) 22 v_bad) 23 v_badPlace) 58 v_waits) 59 v_open)) 174 v_wait), J, Rr, D)) (zS_eq eI0.symm eJ0.symm) ?_
  exact c_X12_opens_0 a1 a2 y_v_bad y_v_badPlace y_v_open y_v_waits y_v_wait E hQ v_bad v_badPlace v_open v_waits v_wait h
-- ChequeredClothModel.isOn
theorem dX12_isOn_0 : decode cX12_isOn 0 = .ok (.aload_n 0, 1) := by decide +kernel
theorem dX12_isOn_1 : decode cX12_isOn 1 = .ok (.getfield 320, 3) := by decide +kernel
theorem dX12_isOn_4 : decode cX12_isOn 4 = .ok (.ifCond .le 22, 3) := by decide +kernel
theorem dX12_isOn_7 : decode cX12_isOn 7 = .ok (.aload_n 0, 1) := by decide +kernel
theorem dX12_isOn_8 : decode cX12_isOn 8 = .ok (.getfield 162, 3) := by decide +kernel
theorem dX12_isOn_11 : decode cX12_isOn 11 = .ok (.aload_n 0, 1) := by decide +kernel
theorem dX12_isOn_12 : decode cX12_isOn 12 = .ok (.getfield 320, 3) := by decide +kernel
theorem dX12_isOn_15 : decode cX12_isOn 15 = .ok (.iconst 1, 1) := by decide +kernel
theorem dX12_isOn_16 : decode cX12_isOn 16 = .ok (.isub, 1) := by decide +kernel
theorem dX12_isOn_17 : decode cX12_isOn 17 = .ok (.iaload, 1) := by decide +kernel
theorem dX12_isOn_18 : decode cX12_isOn 18 = .ok (.iload_n 1, 1) := by decide +kernel
theorem dX12_isOn_19 : decode cX12_isOn 19 = .ok (.if_icmp .ne 7, 3) := by decide +kernel
theorem dX12_isOn_22 : decode cX12_isOn 22 = .ok (.iconst 1, 1) := by decide +kernel
theorem dX12_isOn_23 : decode cX12_isOn 23 = .ok (.goto 4, 3) := by decide +kernel
theorem dX12_isOn_26 : decode cX12_isOn 26 = .ok (.iconst 0, 1) := by decide +kernel
theorem dX12_isOn_27 : decode cX12_isOn 27 = .ok (.ireturn, 1) := by decide +kernel
theorem zy_X12_isOn : zYv yX12_isOn cX12_isOn 2 (some .boolean) 1 := ⟨zw_1654, zws_75, zw_12, zw_1655, by decide, by decide, by decide⟩
theorem c_X12_isOn_0 {C : zC} {I : Nat → Nat → Int32} {J : Nat → Nat → Int64} {Rr : Nat → Nat → Option Nat} {D : zD} (a1 : Int32) (v_waits : Int32) (e_v_waits : I 128 58 = v_waits) (v_wait : (Nat → Int32)) (e_v_wait : I 174 = v_wait) (rr : Int32) (E : zE C RX12 cX12_isOn 2 (some .boolean) ({ frames := 0, cells := 0, slots := 0, locals := 0 } : Room)) (hQ : C.Q = zQi C ({ frames := 0, cells := 0, slots := 0, locals := 0 } : Room) rr (I, J, Rr, D)) (h : pM_isOn a1 v_waits v_wait = some rr) : zB C (0, 0) 0 [(0, .ref (C.X.1 + 128)), (1, .int a1)] [] (I, J, Rr, D) := by
  refine zb_aload_n E dX12_isOn_0 0 rfl rfl ?_
  refine zb_get E 128 (by decide) (zF_128 C.X) rfl zin12 58 (by decide) zw_1226 (v := .int v_waits) (by exact congrArg (fun z => some (Value.int z)) e_v_waits) dX12_isOn_1 ?_
  refine zb_if_le E dX12_isOn_4 (tgt := 26) rfl (fun hc => ?_) (fun hc => ?_)
  · have h := if_t h hc
    refine zb_iconst E dX12_isOn_26 (v := 0) rfl ?_
    obtain rfl := zinj1 h
    exact zb_zret E hQ (ty := .boolean) rfl rfl ⟨Nat.zero_le _, Nat.zero_le _⟩ dX12_isOn_27
  · have h := if_f h hc
    refine zb_aload_n E dX12_isOn_7 0 rfl rfl ?_
    refine zb_get E 128 (by decide) (zF_128 C.X) rfl zin12 57 (by decide) zw_1225 (v := .ref (C.X.1 + 174)) rfl dX12_isOn_8 ?_
    refine zb_aload_n E dX12_isOn_11 0 rfl rfl ?_
    refine zb_get E 128 (by decide) (zF_128 C.X) rfl zin12 58 (by decide) zw_1226 (v := .int v_waits) (by exact congrArg (fun z => some (Value.int z)) e_v_waits) dX12_isOn_12 ?_
    refine zb_iconst E dX12_isOn_15 (v := 1) rfl ?_
    refine zb_isub E dX12_isOn_16 ?_
    obtain ⟨g1, h⟩ := gd_s h
    refine zb_iald E 174 (by decide) zF_174 (f := v_wait) (by exact e_v_wait) (ib_in g1) dX12_isOn_17 ?_
    refine zb_iload_n E dX12_isOn_18 1 rfl rfl ?_
    refine zb_icmp_ne E dX12_isOn_19 (tgt := 26) rfl (fun hc => ?_) (fun hc => ?_)
    · have h := if_f h hc
      refine zb_iconst E dX12_isOn_26 (v := 0) rfl ?_
      obtain rfl := zinj1 h
      exact zb_zret E hQ (ty := .boolean) rfl rfl ⟨Nat.zero_le _, Nat.zero_le _⟩ dX12_isOn_27
    · have h := if_t h hc
      refine zb_iconst E dX12_isOn_22 (v := 1) rfl ?_
      refine zb_goto E dX12_isOn_23 (tgt := 27) rfl ?_
      obtain rfl := zinj1 h
      exact zb_zret E hQ (ty := .boolean) rfl rfl ⟨Nat.zero_le _, Nat.zero_le _⟩ dX12_isOn_27
theorem c_X12_isOn {l : Launch} {X : zX} {I : Nat → Nat → Int32} {J : Nat → Nat → Int64} {Rr : Nat → Nat → Option Nat} {D : zD} {a1 : Int32} (v_waits : Int32) (e_v_waits : I 128 58 = v_waits) (v_wait : (Nat → Int32)) (e_v_wait : I 174 = v_wait) {rr : Int32} (h : pM_isOn a1 v_waits v_wait = some rr) : zMi l yX12_isOn cX12_isOn 2 (some .boolean) ({ frames := 0, cells := 0, slots := 0, locals := 0 } : Room) X [.ref (X.1 + 128), .int a1] (I, J, Rr, D) rr (I, J, Rr, D) := by
  refine zMi.of (by decide) (Nat.le_of_ble_eq_true rfl) (fun C E hl hX hQ => ?_)
  subst hl
  subst hX
  have eI0 : I = I := rfl
  have eJ0 : J = J := rfl
  refine zb_S (S2 := (I, J, Rr, D)) (zS_eq eI0.symm eJ0.symm) ?_
  exact c_X12_isOn_0 a1 v_waits e_v_waits v_wait e_v_wait rr E hQ h
-- ChequeredClothModel.drops
theorem dX12_drops_0 : decode cX12_drops 0 = .ok (.aload_n 0, 1) := by decide +kernel
theorem dX12_drops_1 : decode cX12_drops 1 = .ok (.dup, 1) := by decide +kernel
theorem dX12_drops_2 : decode cX12_drops 2 = .ok (.getfield 320, 3) := by decide +kernel
theorem dX12_drops_5 : decode cX12_drops 5 = .ok (.iconst 1, 1) := by decide +kernel
theorem dX12_drops_6 : decode cX12_drops 6 = .ok (.isub, 1) := by decide +kernel
theorem dX12_drops_7 : decode cX12_drops 7 = .ok (.putfield 320, 3) := by decide +kernel
theorem dX12_drops_10 : decode cX12_drops 10 = .ok (.aload_n 0, 1) := by decide +kernel
theorem dX12_drops_11 : decode cX12_drops 11 = .ok (.aload_n 0, 1) := by decide +kernel
theorem dX12_drops_12 : decode cX12_drops 12 = .ok (.getfield 162, 3) := by decide +kernel
theorem dX12_drops_15 : decode cX12_drops 15 = .ok (.aload_n 0, 1) := by decide +kernel
theorem dX12_drops_16 : decode cX12_drops 16 = .ok (.getfield 320, 3) := by decide +kernel
theorem dX12_drops_19 : decode cX12_drops 19 = .ok (.iaload, 1) := by decide +kernel
theorem dX12_drops_20 : decode cX12_drops 20 = .ok (.invokevirtual 323, 3) := by decide +kernel
theorem dX12_drops_23 : decode cX12_drops 23 = .ok (.return_, 1) := by decide +kernel
theorem zy_X12_drops : zYv yX12_drops cX12_drops 1 none 0 := ⟨zw_1650, zws_74, zw_12, zw_1651, by decide, by decide, by decide⟩
theorem c_X12_drops_0 {C : zC} {I : Nat → Nat → Int32} {J : Nat → Nat → Int64} {Rr : Nat → Nat → Option Nat} {D : zD} (v_wait : (Nat → Int32)) (e_v_wait : I 174 = v_wait) (y_v_coded : Int32) (y_v_waits : Int32) (y_v_codes : (Nat → Int32)) (E : zE C RX12 cX12_drops 1 none ({ frames := 1, cells := 0, slots := 0, locals := 21 } : Room)) (hQ : C.Q = zQv C ({ frames := 1, cells := 0, slots := 0, locals := 21 } : Room) ((va_up (va_up I 128 (va_up (va_up (I 128) 56 y_v_coded) 58 y_v_waits)) 173 y_v_codes), J, Rr, D)) (v_coded : Int32) (v_waits : Int32) (v_codes : (Nat → Int32)) (h : pM_drops v_coded v_waits v_codes v_wait = some (y_v_coded, y_v_waits, y_v_codes)) : zB C (0, 0) 0 [(0, .ref (C.X.1 + 128))] [] ((va_up (va_up I 128 (va_up (va_up (I 128) 56 v_coded) 58 v_waits)) 173 v_codes), J, Rr, D) := by
  refine zb_aload_n E dX12_drops_0 0 rfl rfl ?_
  refine zb_dup E dX12_drops_1 rfl ?_
  refine zb_get E 128 (by decide) (zF_128 C.X) rfl zin12 58 (by decide) zw_1226 (v := .int v_waits) rfl dX12_drops_2 ?_
  refine zb_iconst E dX12_drops_5 (v := 1) rfl ?_
  refine zb_isub E dX12_drops_6 ?_
  refine zb_put E 128 (by decide) (zF_128 C.X) rfl zin12 58 (by decide) zw_1226 tyX12 tyX12_ok nmX12 rfl rfl rfl (I2 := (va_up (va_up I 128 (va_up (va_up (I 128) 56 v_coded) 58 (v_waits - 1))) 173 v_codes)) (J2 := J) ((zset12_58 C.X (va_up (va_up (I 128) 56 v_coded) 58 v_waits) (J 128) (v_waits - 1)).trans (congrArg (fun g => zf12 C.X g (J 128)) zn1)) (by rw [zflen12]; decide) (fun j hj => ⟨zup_cg ((zup_n hj).trans (zup_n hj).symm), rfl⟩) dX12_drops_7 ?_
  refine zb_aload_n E dX12_drops_10 0 rfl rfl ?_
  refine zb_aload_n E dX12_drops_11 0 rfl rfl ?_
  refine zb_get E 128 (by decide) (zF_128 C.X) rfl zin12 57 (by decide) zw_1225 (v := .ref (C.X.1 + 174)) rfl dX12_drops_12 ?_
  refine zb_aload_n E dX12_drops_15 0 rfl rfl ?_
  refine zb_get E 128 (by decide) (zF_128 C.X) rfl zin12 58 (by decide) zw_1226 (v := .int (v_waits - 1)) rfl dX12_drops_16 ?_
  obtain ⟨g1, h⟩ := gd_s h
  refine zb_iald E 174 (by decide) zF_174 (f := v_wait) (by exact e_v_wait) (ib_in g1) dX12_drops_19 ?_
  obtain ⟨v_coded_c2, v_codes_c2, hc_20, h⟩ := bd2_s h
  refine zb_cVv E [.int (v_wait (ix (v_waits - 1)))] 128 zy_X12_code zw_1616 (by decide) (zF_128 _ _ _ _) rfl (c_X12_code (va_up (va_up (I 128) 56 v_coded) 58 (v_waits - 1)) rfl v_coded rfl v_codes rfl hc_20) (by decide) rfl rfl (by first | decide | simp [Value.category]) dX12_drops_20 (cs2 := (0, 0)) rfl ?_
  refine zb_S (S2 := ((va_up (va_up I 128 (va_up (va_up (I 128) 56 v_coded_c2) 58 (v_waits - 1))) 173 v_codes_c2), J, Rr, D)) (zS_eq ((zcgF ((zcgV (zn2 (by decide : (58 : Nat) ≠ 56))).trans (zn2 (by decide : (173 : Nat) ≠ 128)))).trans zn1) rfl) ?_
  obtain ⟨rfl, rfl, rfl⟩ := zinj3 h
  exact zb_vret E hQ rfl ⟨Nat.zero_le _, Nat.zero_le _⟩ dX12_drops_23
theorem c_X12_drops {l : Launch} {X : zX} {I : Nat → Nat → Int32} {J : Nat → Nat → Int64} {Rr : Nat → Nat → Option Nat} {D : zD} (oI128 : Nat → Int32) (eoI128 : I 128 = oI128) (v_wait : (Nat → Int32)) (e_v_wait : I 174 = v_wait) (v_coded : Int32) (e_v_coded : I 128 56 = v_coded) (v_waits : Int32) (e_v_waits : I 128 58 = v_waits) (v_codes : (Nat → Int32)) (e_v_codes : I 173 = v_codes) {y_v_coded : Int32} {y_v_waits : Int32} {y_v_codes : (Nat → Int32)} (h : pM_drops v_coded v_waits v_codes v_wait = some (y_v_coded, y_v_waits, y_v_codes)) : zMv l yX12_drops cX12_drops 1 none ({ frames := 1, cells := 0, slots := 0, locals := 21 } : Room) X [.ref (X.1 + 128)] (I, J, Rr, D) ((va_up (va_up I 128 (va_up (va_up oI128 56 y_v_coded) 58 y_v_waits)) 173 y_v_codes), J, Rr, D) := by
  subst eoI128
  refine zMv.of (by decide) (Nat.le_of_ble_eq_true rfl) (fun C E hl hX hQ => ?_)
  subst hl
  subst hX
  have eI0 : (va_up (va_up I 128 (va_up (va_up (I 128) 56 v_coded) 58 v_waits)) 173 v_codes) = I := by rw [zup_idE e_v_coded, zup_idE e_v_waits, zup_id, zup_idE e_v_codes]
  have eJ0 : J = J := rfl
  refine zb_S (S2 := ((va_up (va_up I 128 (va_up (va_up (I 128) 56 v_coded) 58 v_waits)) 173 v_codes), J, Rr, D)) (zS_eq eI0.symm eJ0.symm) ?_
  exact c_X12_drops_0 v_wait e_v_wait y_v_coded y_v_waits y_v_codes E hQ v_coded v_waits v_codes h
-- ChequeredClothModel.isMark
theorem dX12_isMark_0 : decode cX12_isMark 0 = .ok (.iload_n 1, 1) := by decide +kernel
theorem dX12_isMark_1 : decode cX12_isMark 1 = .ok (.bipush 20, 2) := by decide +kernel
theorem dX12_isMark_3 : decode cX12_isMark 3 = .ok (.if_icmp .lt 13, 3) := by decide +kernel
theorem dX12_isMark_6 : decode cX12_isMark 6 = .ok (.iload_n 1, 1) := by decide +kernel
theorem dX12_isMark_7 : decode cX12_isMark 7 = .ok (.bipush 24, 2) := by decide +kernel
theorem dX12_isMark_9 : decode cX12_isMark 9 = .ok (.if_icmp .gt 7, 3) := by decide +kernel
theorem dX12_isMark_12 : decode cX12_isMark 12 = .ok (.iconst 1, 1) := by decide +kernel
theorem dX12_isMark_13 : decode cX12_isMark 13 = .ok (.goto 4, 3) := by decide +kernel
theorem dX12_isMark_16 : decode cX12_isMark 16 = .ok (.iconst 0, 1) := by decide +kernel
theorem dX12_isMark_17 : decode cX12_isMark 17 = .ok (.ireturn, 1) := by decide +kernel
theorem zy_X12_isMark : zYv yX12_isMark cX12_isMark 2 (some .boolean) 1 := ⟨zw_1642, zws_72, zw_12, zw_1643, by decide, by decide, by decide⟩
theorem c_X12_isMark_0 {C : zC} {I : Nat → Nat → Int32} {J : Nat → Nat → Int64} {Rr : Nat → Nat → Option Nat} {D : zD} (a1 : Int32) (rr : Int32) (E : zE C RX12 cX12_isMark 2 (some .boolean) ({ frames := 0, cells := 0, slots := 0, locals := 0 } : Room)) (hQ : C.Q = zQi C ({ frames := 0, cells := 0, slots := 0, locals := 0 } : Room) rr (I, J, Rr, D)) (h : pM_isMark a1 = some rr) : zB C (0, 0) 0 [(0, .ref (C.X.1 + 128)), (1, .int a1)] [] (I, J, Rr, D) := by
  refine zb_iload_n E dX12_isMark_0 1 rfl rfl ?_
  refine zb_bipush E dX12_isMark_1 (v := 20) rfl ?_
  refine zb_icmp_lt E dX12_isMark_3 (tgt := 16) rfl (fun hc => ?_) (fun hc => ?_)
  · have h := if_t h hc
    refine zb_iconst E dX12_isMark_16 (v := 0) rfl ?_
    obtain rfl := zinj1 h
    exact zb_zret E hQ (ty := .boolean) rfl rfl ⟨Nat.zero_le _, Nat.zero_le _⟩ dX12_isMark_17
  · have h := if_f h hc
    refine zb_iload_n E dX12_isMark_6 1 rfl rfl ?_
    refine zb_bipush E dX12_isMark_7 (v := 24) rfl ?_
    refine zb_icmp_gt E dX12_isMark_9 (tgt := 16) rfl (fun hc => ?_) (fun hc => ?_)
    · have h := if_t h hc
      refine zb_iconst E dX12_isMark_16 (v := 0) rfl ?_
      obtain rfl := zinj1 h
      exact zb_zret E hQ (ty := .boolean) rfl rfl ⟨Nat.zero_le _, Nat.zero_le _⟩ dX12_isMark_17
    · have h := if_f h hc
      refine zb_iconst E dX12_isMark_12 (v := 1) rfl ?_
      refine zb_goto E dX12_isMark_13 (tgt := 17) rfl ?_
      obtain rfl := zinj1 h
      exact zb_zret E hQ (ty := .boolean) rfl rfl ⟨Nat.zero_le _, Nat.zero_le _⟩ dX12_isMark_17
theorem c_X12_isMark {l : Launch} {X : zX} {I : Nat → Nat → Int32} {J : Nat → Nat → Int64} {Rr : Nat → Nat → Option Nat} {D : zD} {a1 : Int32} {rr : Int32} (h : pM_isMark a1 = some rr) : zMi l yX12_isMark cX12_isMark 2 (some .boolean) ({ frames := 0, cells := 0, slots := 0, locals := 0 } : Room) X [.ref (X.1 + 128), .int a1] (I, J, Rr, D) rr (I, J, Rr, D) := by
  refine zMi.of (by decide) (Nat.le_of_ble_eq_true rfl) (fun C E hl hX hQ => ?_)
  subst hl
  subst hX
  have eI0 : I = I := rfl
  have eJ0 : J = J := rfl
  refine zb_S (S2 := (I, J, Rr, D)) (zS_eq eI0.symm eJ0.symm) ?_
  exact c_X12_isMark_0 a1 rr E hQ h
-- ChequeredClothModel.mark
theorem dX12_mark_0 : decode cX12_mark 0 = .ok (.aload_n 0, 1) := by decide +kernel
theorem dX12_mark_1 : decode cX12_mark 1 = .ok (.getfield 320, 3) := by decide +kernel
theorem dX12_mark_4 : decode cX12_mark 4 = .ok (.iconst 1, 1) := by decide +kernel
theorem dX12_mark_5 : decode cX12_mark 5 = .ok (.isub, 1) := by decide +kernel
theorem dX12_mark_6 : decode cX12_mark 6 = .ok (.istore_n 1, 1) := by decide +kernel
theorem dX12_mark_7 : decode cX12_mark 7 = .ok (.iload_n 1, 1) := by decide +kernel
theorem dX12_mark_8 : decode cX12_mark 8 = .ok (.aload_n 0, 1) := by decide +kernel
theorem dX12_mark_9 : decode cX12_mark 9 = .ok (.getfield 326, 3) := by decide +kernel
theorem dX12_mark_12 : decode cX12_mark 12 = .ok (.if_icmp .lt 22, 3) := by decide +kernel
theorem dX12_mark_15 : decode cX12_mark 15 = .ok (.aload_n 0, 1) := by decide +kernel
theorem dX12_mark_16 : decode cX12_mark 16 = .ok (.aload_n 0, 1) := by decide +kernel
theorem dX12_mark_17 : decode cX12_mark 17 = .ok (.getfield 162, 3) := by decide +kernel
theorem dX12_mark_20 : decode cX12_mark 20 = .ok (.iload_n 1, 1) := by decide +kernel
theorem dX12_mark_21 : decode cX12_mark 21 = .ok (.iaload, 1) := by decide +kernel
theorem dX12_mark_22 : decode cX12_mark 22 = .ok (.invokevirtual 329, 3) := by decide +kernel
theorem dX12_mark_25 : decode cX12_mark 25 = .ok (.ifCond .ne 9, 3) := by decide +kernel
theorem dX12_mark_28 : decode cX12_mark 28 = .ok (.iinc 1 (-1), 3) := by decide +kernel
theorem dX12_mark_31 : decode cX12_mark 31 = .ok (.goto (-24), 3) := by decide +kernel
theorem dX12_mark_34 : decode cX12_mark 34 = .ok (.iload_n 1, 1) := by decide +kernel
theorem dX12_mark_35 : decode cX12_mark 35 = .ok (.aload_n 0, 1) := by decide +kernel
theorem dX12_mark_36 : decode cX12_mark 36 = .ok (.getfield 326, 3) := by decide +kernel
theorem dX12_mark_39 : decode cX12_mark 39 = .ok (.if_icmp .lt 12, 3) := by decide +kernel
theorem dX12_mark_42 : decode cX12_mark 42 = .ok (.aload_n 0, 1) := by decide +kernel
theorem dX12_mark_43 : decode cX12_mark 43 = .ok (.getfield 162, 3) := by decide +kernel
theorem dX12_mark_46 : decode cX12_mark 46 = .ok (.iload_n 1, 1) := by decide +kernel
theorem dX12_mark_47 : decode cX12_mark 47 = .ok (.iaload, 1) := by decide +kernel
theorem dX12_mark_48 : decode cX12_mark 48 = .ok (.goto 4, 3) := by decide +kernel
theorem dX12_mark_51 : decode cX12_mark 51 = .ok (.iconst (-1), 1) := by decide +kernel
theorem dX12_mark_52 : decode cX12_mark 52 = .ok (.ireturn, 1) := by decide +kernel
theorem zy_X12_mark : zYv yX12_mark cX12_mark 2 (some .int) 0 := ⟨zw_1638, zws_71, zw_12, zw_1639, by decide, by decide, by decide⟩
theorem c_X12_mark_b7 {C : zC} {I : Nat → Nat → Int32} {J : Nat → Nat → Int64} {Rr : Nat → Nat → Option Nat} {D : zD} (N : Nat) (v_base : Int32) (e_v_base : I 128 60 = v_base) (v_waits : Int32) (e_v_waits : I 128 58 = v_waits) (v_wait : (Nat → Int32)) (e_v_wait : I 174 = v_wait) (rr : Int32) (E : zE C RX12 cX12_mark 2 (some .int) ({ frames := 1, cells := 0, slots := 0, locals := 21 } : Room)) (hQ : C.Q = zQi C ({ frames := 1, cells := 0, slots := 0, locals := 21 } : Room) rr (I, J, Rr, D)) (k34 : Int32 → Option R_pM_mark) (hk34 : ∀ (x1 : Int32), k34 x1 = some rr → zB C (0, 0) 34 [(0, .ref (C.X.1 + 128)), (1, .int x1)] [] (I, J, Rr, D)) : ∀ (n9 : Nat) (x1 : Int32), pM_mark_b7 N v_base v_waits v_wait k34 n9 x1 = some rr → zB C (0, 0) 7 [(0, .ref (C.X.1 + 128)), (1, .int x1)] [] (I, J, Rr, D) := by
  refine zlp1_ind (P := fun (x1 : Int32) => zB C (0, 0) 7 [(0, .ref (C.X.1 + 128)), (1, .int x1)] [] (I, J, Rr, D)) (fun self ih => ?_)
  intro x1 h
  refine zb_iload_n E dX12_mark_7 1 rfl rfl ?_
  refine zb_aload_n E dX12_mark_8 0 rfl rfl ?_
  refine zb_get E 128 (by decide) (zF_128 C.X) rfl zin12 60 (by decide) zw_1228 (v := .int v_base) (by exact congrArg (fun z => some (Value.int z)) e_v_base) dX12_mark_9 ?_
  refine zb_icmp_lt E dX12_mark_12 (tgt := 34) rfl (fun hc => ?_) (fun hc => ?_)
  · have h := if_t h hc
    exact hk34 x1 h
  · have h := if_f h hc
    refine zb_aload_n E dX12_mark_15 0 rfl rfl ?_
    refine zb_aload_n E dX12_mark_16 0 rfl rfl ?_
    refine zb_get E 128 (by decide) (zF_128 C.X) rfl zin12 57 (by decide) zw_1225 (v := .ref (C.X.1 + 174)) rfl dX12_mark_17 ?_
    refine zb_iload_n E dX12_mark_20 1 rfl rfl ?_
    obtain ⟨g1, h⟩ := gd_s h
    refine zb_iald E 174 (by decide) zF_174 (f := v_wait) (by exact e_v_wait) (ib_in g1) dX12_mark_21 ?_
    obtain ⟨rc2, hc_22, h⟩ := bd1_s h
    refine zb_cVi E [.int (v_wait (ix x1))] 128 zy_X12_isMark zw_1640 (by decide) (zF_128 _ _ _ _) rfl (c_X12_isMark hc_22) (by decide) rfl rfl (by first | decide | simp [Value.category]) dX12_mark_22 (cs2 := (0, 0)) rfl ?_
    refine zb_if_ne E dX12_mark_25 (tgt := 34) rfl (fun hc => ?_) (fun hc => ?_)
    · have h := if_f h hc
      exact hk34 x1 h
    · have h := if_t h hc
      refine zb_iinc E dX12_mark_28 1 rfl (v := (x1 + (-1))) rfl (by decide) (lv2 := [(1, .int (x1 + (-1))), (0, .ref (C.X.1 + 128))]) rfl ?_
      refine zb_goto E dX12_mark_31 (tgt := 7) rfl ?_
      refine zb_sub [1, 0] rfl ?_
      exact ih (x1 + (-1)) h
theorem c_X12_mark_b34 {C : zC} {I : Nat → Nat → Int32} {J : Nat → Nat → Int64} {Rr : Nat → Nat → Option Nat} {D : zD} (N : Nat) (v_base : Int32) (e_v_base : I 128 60 = v_base) (v_waits : Int32) (e_v_waits : I 128 58 = v_waits) (v_wait : (Nat → Int32)) (e_v_wait : I 174 = v_wait) (rr : Int32) (E : zE C RX12 cX12_mark 2 (some .int) ({ frames := 1, cells := 0, slots := 0, locals := 21 } : Room)) (hQ : C.Q = zQi C ({ frames := 1, cells := 0, slots := 0, locals := 21 } : Room) rr (I, J, Rr, D)) (x1 : Int32) (h : pM_mark_b34 N v_base v_waits v_wait x1 = some rr) : zB C (0, 0) 34 [(0, .ref (C.X.1 + 128)), (1, .int x1)] [] (I, J, Rr, D) := by
  refine zb_iload_n E dX12_mark_34 1 rfl rfl ?_
  refine zb_aload_n E dX12_mark_35 0 rfl rfl ?_
  refine zb_get E 128 (by decide) (zF_128 C.X) rfl zin12 60 (by decide) zw_1228 (v := .int v_base) (by exact congrArg (fun z => some (Value.int z)) e_v_base) dX12_mark_36 ?_
  refine zb_icmp_lt E dX12_mark_39 (tgt := 51) rfl (fun hc => ?_) (fun hc => ?_)
  · have h := if_t h hc
    refine zb_iconst E dX12_mark_51 (v := (-1)) rfl ?_
    obtain rfl := zinj1 h
    exact zb_iret E hQ rfl ⟨Nat.zero_le _, Nat.zero_le _⟩ dX12_mark_52
  · have h := if_f h hc
    refine zb_aload_n E dX12_mark_42 0 rfl rfl ?_
    refine zb_get E 128 (by decide) (zF_128 C.X) rfl zin12 57 (by decide) zw_1225 (v := .ref (C.X.1 + 174)) rfl dX12_mark_43 ?_
    refine zb_iload_n E dX12_mark_46 1 rfl rfl ?_
    obtain ⟨g3, h⟩ := gd_s h
    refine zb_iald E 174 (by decide) zF_174 (f := v_wait) (by exact e_v_wait) (ib_in g3) dX12_mark_47 ?_
    refine zb_goto E dX12_mark_48 (tgt := 52) rfl ?_
    obtain rfl := zinj1 h
    exact zb_iret E hQ rfl ⟨Nat.zero_le _, Nat.zero_le _⟩ dX12_mark_52
theorem c_X12_mark_0 {C : zC} {I : Nat → Nat → Int32} {J : Nat → Nat → Int64} {Rr : Nat → Nat → Option Nat} {D : zD} (N : Nat) (v_base : Int32) (e_v_base : I 128 60 = v_base) (v_waits : Int32) (e_v_waits : I 128 58 = v_waits) (v_wait : (Nat → Int32)) (e_v_wait : I 174 = v_wait) (rr : Int32) (E : zE C RX12 cX12_mark 2 (some .int) ({ frames := 1, cells := 0, slots := 0, locals := 21 } : Room)) (hQ : C.Q = zQi C ({ frames := 1, cells := 0, slots := 0, locals := 21 } : Room) rr (I, J, Rr, D)) (h : pM_mark N v_base v_waits v_wait = some rr) : zB C (0, 0) 0 [(0, .ref (C.X.1 + 128))] [] (I, J, Rr, D) := by
  refine zb_aload_n E dX12_mark_0 0 rfl rfl ?_
  refine zb_get E 128 (by decide) (zF_128 C.X) rfl zin12 58 (by decide) zw_1226 (v := .int v_waits) (by exact congrArg (fun z => some (Value.int z)) e_v_waits) dX12_mark_1 ?_
  refine zb_iconst E dX12_mark_4 (v := 1) rfl ?_
  refine zb_isub E dX12_mark_5 ?_
  refine zb_istore_n E dX12_mark_6 rfl (by decide) (lv2 := [(1, .int (v_waits - 1)), (0, .ref (C.X.1 + 128))]) rfl ?_
  refine zb_sub [1, 0] rfl ?_
  exact c_X12_mark_b7 N v_base e_v_base v_waits e_v_waits v_wait e_v_wait rr E hQ _ (fun x1_z1 h => c_X12_mark_b34 N v_base e_v_base v_waits e_v_waits v_wait e_v_wait rr E hQ x1_z1 h) _ (v_waits - 1) h
theorem c_X12_mark {l : Launch} {X : zX} {I : Nat → Nat → Int32} {J : Nat → Nat → Int64} {Rr : Nat → Nat → Option Nat} {D : zD} {N : Nat} (v_base : Int32) (e_v_base : I 128 60 = v_base) (v_waits : Int32) (e_v_waits : I 128 58 = v_waits) (v_wait : (Nat → Int32)) (e_v_wait : I 174 = v_wait) {rr : Int32} (h : pM_mark N v_base v_waits v_wait = some rr) : zMi l yX12_mark cX12_mark 2 (some .int) ({ frames := 1, cells := 0, slots := 0, locals := 21 } : Room) X [.ref (X.1 + 128)] (I, J, Rr, D) rr (I, J, Rr, D) := by
  refine zMi.of (by decide) (Nat.le_of_ble_eq_true rfl) (fun C E hl hX hQ => ?_)
  subst hl
  subst hX
  have eI0 : I = I := rfl
  have eJ0 : J = J := rfl
  refine zb_S (S2 := (I, J, Rr, D)) (zS_eq eI0.symm eJ0.symm) ?_
  exact c_X12_mark_0 N v_base e_v_base v_waits e_v_waits v_wait e_v_wait rr E hQ h
-- ChequeredClothModel.dropsToMark
theorem dX12_dropsToMark_0 : decode cX12_dropsToMark 0 = .ok (.aload_n 0, 1) := by decide +kernel
theorem dX12_dropsToMark_1 : decode cX12_dropsToMark 1 = .ok (.getfield 320, 3) := by decide +kernel
theorem dX12_dropsToMark_4 : decode cX12_dropsToMark 4 = .ok (.aload_n 0, 1) := by decide +kernel
theorem dX12_dropsToMark_5 : decode cX12_dropsToMark 5 = .ok (.getfield 326, 3) := by decide +kernel
theorem dX12_dropsToMark_8 : decode cX12_dropsToMark 8 = .ok (.if_icmp .le 28, 3) := by decide +kernel
theorem dX12_dropsToMark_11 : decode cX12_dropsToMark 11 = .ok (.aload_n 0, 1) := by decide +kernel
theorem dX12_dropsToMark_12 : decode cX12_dropsToMark 12 = .ok (.aload_n 0, 1) := by decide +kernel
theorem dX12_dropsToMark_13 : decode cX12_dropsToMark 13 = .ok (.getfield 162, 3) := by decide +kernel
theorem dX12_dropsToMark_16 : decode cX12_dropsToMark 16 = .ok (.aload_n 0, 1) := by decide +kernel
theorem dX12_dropsToMark_17 : decode cX12_dropsToMark 17 = .ok (.getfield 320, 3) := by decide +kernel
theorem dX12_dropsToMark_20 : decode cX12_dropsToMark 20 = .ok (.iconst 1, 1) := by decide +kernel
theorem dX12_dropsToMark_21 : decode cX12_dropsToMark 21 = .ok (.isub, 1) := by decide +kernel
theorem dX12_dropsToMark_22 : decode cX12_dropsToMark 22 = .ok (.iaload, 1) := by decide +kernel
theorem dX12_dropsToMark_23 : decode cX12_dropsToMark 23 = .ok (.invokevirtual 329, 3) := by decide +kernel
theorem dX12_dropsToMark_26 : decode cX12_dropsToMark 26 = .ok (.ifCond .ne 10, 3) := by decide +kernel
theorem dX12_dropsToMark_29 : decode cX12_dropsToMark 29 = .ok (.aload_n 0, 1) := by decide +kernel
theorem dX12_dropsToMark_30 : decode cX12_dropsToMark 30 = .ok (.invokevirtual 332, 3) := by decide +kernel
theorem dX12_dropsToMark_33 : decode cX12_dropsToMark 33 = .ok (.goto (-33), 3) := by decide +kernel
theorem dX12_dropsToMark_36 : decode cX12_dropsToMark 36 = .ok (.return_, 1) := by decide +kernel
theorem zy_X12_dropsToMark : zYv yX12_dropsToMark cX12_dropsToMark 1 none 0 := ⟨zw_1646, zws_73, zw_12, zw_1647, by decide, by decide, by decide⟩
theorem c_X12_dropsToMark_b0 {C : zC} {I : Nat → Nat → Int32} {J : Nat → Nat → Int64} {Rr : Nat → Nat → Option Nat} {D : zD} (N : Nat) (v_base : Int32) (e_v_base : I 128 60 = v_base) (v_wait : (Nat → Int32)) (e_v_wait : I 174 = v_wait) (y_v_coded : Int32) (y_v_waits : Int32) (y_v_codes : (Nat → Int32)) (E : zE C RX12 cX12_dropsToMark 1 none ({ frames := 2, cells := 0, slots := 0, locals := 41 } : Room)) (hQ : C.Q = zQv C ({ frames := 2, cells := 0, slots := 0, locals := 41 } : Room) ((va_up (va_up I 128 (va_up (va_up (I 128) 56 y_v_coded) 58 y_v_waits)) 173 y_v_codes), J, Rr, D))  : ∀ (n9 : Nat) (v_coded : Int32) (v_waits : Int32) (v_codes : (Nat → Int32)), pM_dropsToMark_b0 N v_base v_wait n9 v_coded v_waits v_codes = some (y_v_coded, y_v_waits, y_v_codes) → zB C (0, 0) 0 [(0, .ref (C.X.1 + 128))] [] ((va_up (va_up I 128 (va_up (va_up (I 128) 56 v_coded) 58 v_waits)) 173 v_codes), J, Rr, D) := by
  refine zlp3_ind (P := fun (v_coded : Int32) (v_waits : Int32) (v_codes : (Nat → Int32)) => zB C (0, 0) 0 [(0, .ref (C.X.1 + 128))] [] ((va_up (va_up I 128 (va_up (va_up (I 128) 56 v_coded) 58 v_waits)) 173 v_codes), J, Rr, D)) (fun self ih => ?_)
  intro v_coded v_waits v_codes h
  refine zb_aload_n E dX12_dropsToMark_0 0 rfl rfl ?_
  refine zb_get E 128 (by decide) (zF_128 C.X) rfl zin12 58 (by decide) zw_1226 (v := .int v_waits) rfl dX12_dropsToMark_1 ?_
  refine zb_aload_n E dX12_dropsToMark_4 0 rfl rfl ?_
  refine zb_get E 128 (by decide) (zF_128 C.X) rfl zin12 60 (by decide) zw_1228 (v := .int v_base) (by exact congrArg (fun z => some (Value.int z)) e_v_base) dX12_dropsToMark_5 ?_
  refine zb_icmp_le E dX12_dropsToMark_8 (tgt := 36) rfl (fun hc => ?_) (fun hc => ?_)
  · have h := if_t h hc
    obtain ⟨rfl, rfl, rfl⟩ := zinj3 h
    exact zb_vret E hQ rfl ⟨Nat.zero_le _, Nat.zero_le _⟩ dX12_dropsToMark_36
  · have h := if_f h hc
    refine zb_aload_n E dX12_dropsToMark_11 0 rfl rfl ?_
    refine zb_aload_n E dX12_dropsToMark_12 0 rfl rfl ?_
    refine zb_get E 128 (by decide) (zF_128 C.X) rfl zin12 57 (by decide) zw_1225 (v := .ref (C.X.1 + 174)) rfl dX12_dropsToMark_13 ?_
    refine zb_aload_n E dX12_dropsToMark_16 0 rfl rfl ?_
    refine zb_get E 128 (by decide) (zF_128 C.X) rfl zin12 58 (by decide) zw_1226 (v := .int v_waits) rfl dX12_dropsToMark_17 ?_
    refine zb_iconst E dX12_dropsToMark_20 (v := 1) rfl ?_
    refine zb_isub E dX12_dropsToMark_21 ?_
    obtain ⟨g1, h⟩ := gd_s h
    refine zb_iald E 174 (by decide) zF_174 (f := v_wait) (by exact e_v_wait) (ib_in g1) dX12_dropsToMark_22 ?_
    obtain ⟨rc2, hc_23, h⟩ := bd1_s h
    refine zb_cVi E [.int (v_wait (ix (v_waits - 1)))] 128 zy_X12_isMark zw_1640 (by decide) (zF_128 _ _ _ _) rfl (c_X12_isMark hc_23) (by decide) rfl rfl (by first | decide | simp [Value.category]) dX12_dropsToMark_23 (cs2 := (0, 0)) rfl ?_
    refine zb_if_ne E dX12_dropsToMark_26 (tgt := 36) rfl (fun hc => ?_) (fun hc => ?_)
    · have h := if_f h hc
      obtain ⟨rfl, rfl, rfl⟩ := zinj3 h
      exact zb_vret E hQ rfl ⟨Nat.zero_le _, Nat.zero_le _⟩ dX12_dropsToMark_36
    · have h := if_t h hc
      refine zb_aload_n E dX12_dropsToMark_29 0 rfl rfl ?_
      obtain ⟨v_coded_c3, v_waits_c3, v_codes_c3, hc_30, h⟩ := bd3_s h
      refine zb_cVv E [] 128 zy_X12_drops zw_1648 (by decide) (zF_128 _ _ _ _) rfl (c_X12_drops (va_up (va_up (I 128) 56 v_coded) 58 v_waits) rfl v_wait (by exact e_v_wait) v_coded rfl v_waits rfl v_codes rfl hc_30) (by decide) rfl rfl (by first | decide | simp [Value.category]) dX12_dropsToMark_30 (cs2 := (0, 0)) rfl ?_
      refine zb_S (S2 := ((va_up (va_up I 128 (va_up (va_up (I 128) 56 v_coded_c3) 58 v_waits_c3)) 173 v_codes_c3), J, Rr, D)) (zS_eq ((zcgF ((zcgV ((zcgF (zn2 (by decide : (58 : Nat) ≠ 56))).trans zn1)).trans (zn2 (by decide : (173 : Nat) ≠ 128)))).trans zn1) rfl) ?_
      refine zb_goto E dX12_dropsToMark_33 (tgt := 0) rfl ?_
      exact ih v_coded_c3 v_waits_c3 v_codes_c3 h
theorem c_X12_dropsToMark_0 {C : zC} {I : Nat → Nat → Int32} {J : Nat → Nat → Int64} {Rr : Nat → Nat → Option Nat} {D : zD} (N : Nat) (v_base : Int32) (e_v_base : I 128 60 = v_base) (v_wait : (Nat → Int32)) (e_v_wait : I 174 = v_wait) (y_v_coded : Int32) (y_v_waits : Int32) (y_v_codes : (Nat → Int32)) (E : zE C RX12 cX12_dropsToMark 1 none ({ frames := 2, cells := 0, slots := 0, locals := 41 } : Room)) (hQ : C.Q = zQv C ({ frames := 2, cells := 0, slots := 0, locals := 41 } : Room) ((va_up (va_up I 128 (va_up (va_up (I 128) 56 y_v_coded) 58 y_v_waits)) 173 y_v_codes), J, Rr, D)) (v_coded : Int32) (v_waits : Int32) (v_codes : (Nat → Int32)) (h : pM_dropsToMark N v_base v_coded v_waits v_codes v_wait = some (y_v_coded, y_v_waits, y_v_codes)) : zB C (0, 0) 0 [(0, .ref (C.X.1 + 128))] [] ((va_up (va_up I 128 (va_up (va_up (I 128) 56 v_coded) 58 v_waits)) 173 v_codes), J, Rr, D) := by
  exact c_X12_dropsToMark_b0 N v_base e_v_base v_wait e_v_wait y_v_coded y_v_waits y_v_codes E hQ _ v_coded v_waits v_codes h
theorem c_X12_dropsToMark {l : Launch} {X : zX} {I : Nat → Nat → Int32} {J : Nat → Nat → Int64} {Rr : Nat → Nat → Option Nat} {D : zD} {N : Nat} (oI128 : Nat → Int32) (eoI128 : I 128 = oI128) (v_base : Int32) (e_v_base : I 128 60 = v_base) (v_wait : (Nat → Int32)) (e_v_wait : I 174 = v_wait) (v_coded : Int32) (e_v_coded : I 128 56 = v_coded) (v_waits : Int32) (e_v_waits : I 128 58 = v_waits) (v_codes : (Nat → Int32)) (e_v_codes : I 173 = v_codes) {y_v_coded : Int32} {y_v_waits : Int32} {y_v_codes : (Nat → Int32)} (h : pM_dropsToMark N v_base v_coded v_waits v_codes v_wait = some (y_v_coded, y_v_waits, y_v_codes)) : zMv l yX12_dropsToMark cX12_dropsToMark 1 none ({ frames := 2, cells := 0, slots := 0, locals := 41 } : Room) X [.ref (X.1 + 128)] (I, J, Rr, D) ((va_up (va_up I 128 (va_up (va_up oI128 56 y_v_coded) 58 y_v_waits)) 173 y_v_codes), J, Rr, D) := by
  subst eoI128
  refine zMv.of (by decide) (Nat.le_of_ble_eq_true rfl) (fun C E hl hX hQ => ?_)
  subst hl
  subst hX
  have eI0 : (va_up (va_up I 128 (va_up (va_up (I 128) 56 v_coded) 58 v_waits)) 173 v_codes) = I := by rw [zup_idE e_v_coded, zup_idE e_v_waits, zup_id, zup_idE e_v_codes]
  have eJ0 : J = J := rfl
  refine zb_S (S2 := ((va_up (va_up I 128 (va_up (va_up (I 128) 56 v_coded) 58 v_waits)) 173 v_codes), J, Rr, D)) (zS_eq eI0.symm eJ0.symm) ?_
  exact c_X12_dropsToMark_0 N v_base e_v_base v_wait e_v_wait y_v_coded y_v_waits y_v_codes E hQ v_coded v_waits v_codes h
-- ChequeredClothModel.numberPart
theorem dX12_numberPart_0 : decode cX12_numberPart 0 = .ok (.aload_n 0, 1) := by decide +kernel
theorem dX12_numberPart_1 : decode cX12_numberPart 1 = .ok (.iconst 0, 1) := by decide +kernel
theorem dX12_numberPart_2 : decode cX12_numberPart 2 = .ok (.ldc_w 348, 3) := by decide +kernel
theorem dX12_numberPart_5 : decode cX12_numberPart 5 = .ok (.invokevirtual 349, 3) := by decide +kernel
theorem dX12_numberPart_8 : decode cX12_numberPart 8 = .ok (.istore_n 1, 1) := by decide +kernel
theorem dX12_numberPart_9 : decode cX12_numberPart 9 = .ok (.aload_n 0, 1) := by decide +kernel
theorem dX12_numberPart_10 : decode cX12_numberPart 10 = .ok (.getfield 275, 3) := by decide +kernel
theorem dX12_numberPart_13 : decode cX12_numberPart 13 = .ok (.ifCond .eq 4, 3) := by decide +kernel
theorem dX12_numberPart_16 : decode cX12_numberPart 16 = .ok (.return_, 1) := by decide +kernel
theorem dX12_numberPart_17 : decode cX12_numberPart 17 = .ok (.aload_n 0, 1) := by decide +kernel
theorem dX12_numberPart_18 : decode cX12_numberPart 18 = .ok (.aload_n 0, 1) := by decide +kernel
theorem dX12_numberPart_19 : decode cX12_numberPart 19 = .ok (.getfield 106, 3) := by decide +kernel
theorem dX12_numberPart_22 : decode cX12_numberPart 22 = .ok (.invokevirtual 301, 3) := by decide +kernel
theorem dX12_numberPart_25 : decode cX12_numberPart 25 = .ok (.ifCond .eq 7, 3) := by decide +kernel
theorem dX12_numberPart_28 : decode cX12_numberPart 28 = .ok (.iconst 1, 1) := by decide +kernel
theorem dX12_numberPart_29 : decode cX12_numberPart 29 = .ok (.goto 37, 3) := by decide +kernel
theorem dX12_numberPart_32 : decode cX12_numberPart 32 = .ok (.aload_n 0, 1) := by decide +kernel
theorem dX12_numberPart_33 : decode cX12_numberPart 33 = .ok (.aload_n 0, 1) := by decide +kernel
theorem dX12_numberPart_34 : decode cX12_numberPart 34 = .ok (.getfield 109, 3) := by decide +kernel
theorem dX12_numberPart_37 : decode cX12_numberPart 37 = .ok (.invokevirtual 301, 3) := by decide +kernel
theorem dX12_numberPart_40 : decode cX12_numberPart 40 = .ok (.ifCond .eq 8, 3) := by decide +kernel
theorem dX12_numberPart_43 : decode cX12_numberPart 43 = .ok (.bipush 12, 2) := by decide +kernel
theorem dX12_numberPart_45 : decode cX12_numberPart 45 = .ok (.goto 21, 3) := by decide +kernel
theorem dX12_numberPart_48 : decode cX12_numberPart 48 = .ok (.aload_n 0, 1) := by decide +kernel
theorem dX12_numberPart_49 : decode cX12_numberPart 49 = .ok (.aload_n 0, 1) := by decide +kernel
theorem dX12_numberPart_50 : decode cX12_numberPart 50 = .ok (.getfield 112, 3) := by decide +kernel
theorem dX12_numberPart_53 : decode cX12_numberPart 53 = .ok (.invokevirtual 301, 3) := by decide +kernel
theorem dX12_numberPart_56 : decode cX12_numberPart 56 = .ok (.ifCond .eq 9, 3) := by decide +kernel
theorem dX12_numberPart_59 : decode cX12_numberPart 59 = .ok (.sipush 240, 3) := by decide +kernel
theorem dX12_numberPart_62 : decode cX12_numberPart 62 = .ok (.goto 4, 3) := by decide +kernel
theorem dX12_numberPart_65 : decode cX12_numberPart 65 = .ok (.iconst 1, 1) := by decide +kernel
theorem dX12_numberPart_66 : decode cX12_numberPart 66 = .ok (.istore_n 2, 1) := by decide +kernel
theorem dX12_numberPart_67 : decode cX12_numberPart 67 = .ok (.aload_n 0, 1) := by decide +kernel
theorem dX12_numberPart_68 : decode cX12_numberPart 68 = .ok (.sipush 1000, 3) := by decide +kernel
theorem dX12_numberPart_71 : decode cX12_numberPart 71 = .ok (.iload_n 1, 1) := by decide +kernel
theorem dX12_numberPart_72 : decode cX12_numberPart 72 = .ok (.iload_n 2, 1) := by decide +kernel
theorem dX12_numberPart_73 : decode cX12_numberPart 73 = .ok (.imul, 1) := by decide +kernel
theorem dX12_numberPart_74 : decode cX12_numberPart 74 = .ok (.iadd, 1) := by decide +kernel
theorem dX12_numberPart_75 : decode cX12_numberPart 75 = .ok (.invokevirtual 323, 3) := by decide +kernel
theorem dX12_numberPart_78 : decode cX12_numberPart 78 = .ok (.return_, 1) := by decide +kernel
theorem zy_X12_numberPart : zYv yX12_numberPart cX12_numberPart 3 none 0 := ⟨zw_1622, zws_68, zw_12, zw_1623, by decide, by decide, by decide⟩
theorem c_X12_numberPart_b66 {C : zC} {I : Nat → Nat → Int32} {J : Nat → Nat → Int64} {Rr : Nat → Nat → Option Nat} {D : zD} (N : Nat) (v_end : Int32) (e_v_end : I 128 20 = v_end) (v_penceWord : (Nat → Int32)) (e_v_penceWord : I 156 = v_penceWord) (v_poundsWord : (Nat → Int32)) (e_v_poundsWord : I 158 = v_poundsWord) (v_shillingsWord : (Nat → Int32)) (e_v_shillingsWord : I 157 = v_shillingsWord) (v_tape : (Nat → Int32)) (e_v_tape : I 143 = v_tape) (y_v_at : Int32) (y_v_bad : Int32) (y_v_badPlace : Int32) (y_v_coded : Int32) (y_v_ended : Int32) (y_v_codes : (Nat → Int32)) (E : zE C RX12 cX12_numberPart 3 none ({ frames := 3, cells := 0, slots := 0, locals := 64 } : Room)) (hQ : C.Q = zQv C ({ frames := 3, cells := 0, slots := 0, locals := 64 } : Room) ((va_up (va_up I 128 (va_up (va_up (va_up (va_up (va_up (I 128) 19 y_v_at) 21 y_v_ended) 22 y_v_bad) 23 y_v_badPlace) 56 y_v_coded)) 173 y_v_codes), J, Rr, D)) (x1 : Int32) (s0 : Int32) (v_at : Int32) (v_bad : Int32) (v_badPlace : Int32) (v_coded : Int32) (v_ended : Int32) (v_codes : (Nat → Int32)) (h : pM_numberPart_b66 N v_end v_penceWord v_poundsWord v_shillingsWord v_tape x1 s0 v_at v_bad v_badPlace v_coded v_ended v_codes = some (y_v_at, y_v_bad, y_v_badPlace, y_v_coded, y_v_ended, y_v_codes)) : zB C (0, 0) 66 [(0, .ref (C.X.1 + 128)), (1, .int x1)] [.int s0] ((va_up (va_up I 128 (va_up (va_up (va_up (va_up (va_up (I 128) 19 v_at) 21 v_ended) 22 v_bad) 23 v_badPlace) 56 v_coded)) 173 v_codes), J, Rr, D) := by
  refine zb_istore_n E dX12_numberPart_66 rfl (by decide) (lv2 := [(2, .int s0), (0, .ref (C.X.1 + 128)), (1, .int x1)]) rfl ?_
  refine zb_aload_n E dX12_numberPart_67 1 rfl rfl ?_
  refine zb_sipush E dX12_numberPart_68 (v := 1000) rfl ?_
  refine zb_iload_n E dX12_numberPart_71 2 rfl rfl ?_
  refine zb_iload_n E dX12_numberPart_72 0 rfl rfl ?_
  refine zb_imul E dX12_numberPart_73 ?_
  refine zb_iadd E dX12_numberPart_74 ?_
  obtain ⟨v_coded_c5, v_codes_c5, hc_75, h⟩ := bd2_s h
  refine zb_cVv E [.int (1000 + (x1 * s0))] 128 zy_X12_code zw_1616 (by decide) (zF_128 _ _ _ _) rfl (c_X12_code (va_up (va_up (va_up (va_up (va_up (I 128) 19 v_at) 21 v_ended) 22 v_bad) 23 v_badPlace) 56 v_coded) rfl v_coded rfl v_codes rfl hc_75) (by decide) rfl rfl (by first | decide | simp [Value.category]) dX12_numberPart_75 (cs2 := (0, 0)) rfl ?_
  refine zb_S (S2 := ((va_up (va_up I 128 (va_up (va_up (va_up (va_up (va_up (I 128) 19 v_at) 21 v_ended) 22 v_bad) 23 v_badPlace) 56 v_coded_c5)) 173 v_codes_c5), J, Rr, D)) (zS_eq ((zcgF ((zcgV zn1).trans (zn2 (by decide : (173 : Nat) ≠ 128)))).trans zn1) rfl) ?_
  obtain ⟨rfl, rfl, rfl, rfl, rfl, rfl⟩ := zinj6 h
  exact zb_vret E hQ rfl ⟨Nat.zero_le _, Nat.zero_le _⟩ dX12_numberPart_78
theorem c_X12_numberPart_0 {C : zC} {I : Nat → Nat → Int32} {J : Nat → Nat → Int64} {Rr : Nat → Nat → Option Nat} {D : zD} (N : Nat) (v_end : Int32) (e_v_end : I 128 20 = v_end) (v_penceWord : (Nat → Int32)) (e_v_penceWord : I 156 = v_penceWord) (v_poundsWord : (Nat → Int32)) (e_v_poundsWord : I 158 = v_poundsWord) (v_shillingsWord : (Nat → Int32)) (e_v_shillingsWord : I 157 = v_shillingsWord) (v_tape : (Nat → Int32)) (e_v_tape : I 143 = v_tape) (y_v_at : Int32) (y_v_bad : Int32) (y_v_badPlace : Int32) (y_v_coded : Int32) (y_v_ended : Int32) (y_v_codes : (Nat → Int32)) (E : zE C RX12 cX12_numberPart 3 none ({ frames := 3, cells := 0, slots := 0, locals := 64 } : Room)) (hQ : C.Q = zQv C ({ frames := 3, cells := 0, slots := 0, locals := 64 } : Room) ((va_up (va_up I 128 (va_up (va_up (va_up (va_up (va_up (I 128) 19 y_v_at) 21 y_v_ended) 22 y_v_bad) 23 y_v_badPlace) 56 y_v_coded)) 173 y_v_codes), J, Rr, D)) (v_at : Int32) (v_bad : Int32) (v_badPlace : Int32) (v_coded : Int32) (v_ended : Int32) (v_codes : (Nat → Int32)) (h : pM_numberPart N v_at v_bad v_badPlace v_coded v_end v_ended v_codes v_penceWord v_poundsWord v_shillingsWord v_tape = some (y_v_at, y_v_bad, y_v_badPlace, y_v_coded, y_v_ended, y_v_codes)) : zB C (0, 0) 0 [(0, .ref (C.X.1 + 128))] [] ((va_up (va_up I 128 (va_up (va_up (va_up (va_up (va_up (I 128) 19 v_at) 21 v_ended) 22 v_bad) 23 v_badPlace) 56 v_coded)) 173 v_codes), J, Rr, D) := by
  refine zb_aload_n E dX12_numberPart_0 0 rfl rfl ?_
  refine zb_iconst E dX12_numberPart_1 (v := 0) rfl ?_
  refine zb_ldcw E dX12_numberPart_2 (v := 99999) zw_1624 ?_
  obtain ⟨rc1, v_at_c1, v_bad_c1, v_badPlace_c1, v_ended_c1, hc_5, h⟩ := bd5_s h
  refine zb_cVi E [.int 0, .int 99999] 128 zy_X12_number zw_1625 (by decide) (zF_128 _ _ _ _) rfl (c_X12_number (va_up (va_up (va_up (va_up (va_up (I 128) 19 v_at) 21 v_ended) 22 v_bad) 23 v_badPlace) 56 v_coded) rfl v_end (by exact e_v_end) v_tape (by exact e_v_tape) v_at rfl v_bad rfl v_badPlace rfl v_ended rfl hc_5) (by decide) rfl rfl (by first | decide | simp [Value.category]) dX12_numberPart_5 (cs2 := (0, 0)) rfl ?_
  refine zb_S (S2 := ((va_up (va_up I 128 (va_up (va_up (va_up (va_up (va_up (I 128) 19 v_at_c1) 21 v_ended_c1) 22 v_bad_c1) 23 v_badPlace_c1) 56 v_coded)) 173 v_codes), J, Rr, D)) (zS_eq ((zcgV ((zcgF ((zcgF ((zcgF (zn5 (by decide : (56 : Nat) ≠ 19) (by decide : (23 : Nat) ≠ 19) (by decide : (22 : Nat) ≠ 19) (by decide : (21 : Nat) ≠ 19))).trans (zn4 (by decide : (56 : Nat) ≠ 21) (by decide : (23 : Nat) ≠ 21) (by decide : (22 : Nat) ≠ 21)))).trans (zn3 (by decide : (56 : Nat) ≠ 22) (by decide : (23 : Nat) ≠ 22)))).trans (zn2 (by decide : (56 : Nat) ≠ 23)))).trans (zn2 (by decide : (173 : Nat) ≠ 128))) rfl) ?_
  refine zb_istore_n E dX12_numberPart_8 rfl (by decide) (lv2 := [(1, .int rc1), (0, .ref (C.X.1 + 128))]) rfl ?_
  refine zb_aload_n E dX12_numberPart_9 1 rfl rfl ?_
  refine zb_get E 128 (by decide) (zF_128 C.X) rfl zin12 22 (by decide) zw_1190 (v := .int v_bad_c1) rfl dX12_numberPart_10 ?_
  refine zb_if_eq E dX12_numberPart_13 (tgt := 17) rfl (fun hc => ?_) (fun hc => ?_)
  · have h := if_t h hc
    refine zb_aload_n E dX12_numberPart_17 1 rfl rfl ?_
    refine zb_aload_n E dX12_numberPart_18 1 rfl rfl ?_
    refine zb_get E 128 (by decide) (zF_128 C.X) rfl zin12 38 (by decide) zw_1206 (v := .ref (C.X.1 + 156)) rfl dX12_numberPart_19 ?_
    obtain ⟨rc2, v_at_c2, v_ended_c2, hc_22, h⟩ := bd3_s h
    refine zb_cVi E [.ref (C.X.1 + 156)] 128 zy_X12_takes zw_1581 (by decide) (zF_128 _ _ _ _) rfl (c_X12_takes 156 (by decide) zF_156 (by decide) (va_up (va_up (va_up (va_up (va_up (I 128) 19 v_at_c1) 21 v_ended_c1) 22 v_bad_c1) 23 v_badPlace_c1) 56 v_coded) rfl v_penceWord (by exact e_v_penceWord) v_bad_c1 rfl v_end (by exact e_v_end) v_tape (by exact e_v_tape) v_at_c1 rfl v_ended_c1 rfl hc_22) (by decide) rfl rfl (by first | decide | simp [Value.category]) dX12_numberPart_22 (cs2 := (0, 0)) rfl ?_
    refine zb_S (S2 := ((va_up (va_up I 128 (va_up (va_up (va_up (va_up (va_up (I 128) 19 v_at_c2) 21 v_ended_c2) 22 v_bad_c1) 23 v_badPlace_c1) 56 v_coded)) 173 v_codes), J, Rr, D)) (zS_eq ((zcgV ((zcgF (zn5 (by decide : (56 : Nat) ≠ 19) (by decide : (23 : Nat) ≠ 19) (by decide : (22 : Nat) ≠ 19) (by decide : (21 : Nat) ≠ 19))).trans (zn4 (by decide : (56 : Nat) ≠ 21) (by decide : (23 : Nat) ≠ 21) (by decide : (22 : Nat) ≠ 21)))).trans (zn2 (by decide : (173 : Nat) ≠ 128))) rfl) ?_
    refine zb_if_eq E dX12_numberPart_25 (tgt := 32) rfl (fun hc => ?_) (fun hc => ?_)
    · have h := if_t h hc
      refine zb_aload_n E dX12_numberPart_32 1 rfl rfl ?_
      refine zb_aload_n E dX12_numberPart_33 1 rfl rfl ?_
      refine zb_get E 128 (by decide) (zF_128 C.X) rfl zin12 39 (by decide) zw_1207 (v := .ref (C.X.1 + 157)) rfl dX12_numberPart_34 ?_
      obtain ⟨rc3, v_at_c3, v_ended_c3, hc_37, h⟩ := bd3_s h
      refine zb_cVi E [.ref (C.X.1 + 157)] 128 zy_X12_takes zw_1581 (by decide) (zF_128 _ _ _ _) rfl (c_X12_takes 157 (by decide) zF_157 (by decide) (va_up (va_up (va_up (va_up (va_up (I 128) 19 v_at_c2) 21 v_ended_c2) 22 v_bad_c1) 23 v_badPlace_c1) 56 v_coded) rfl v_shillingsWord (by exact e_v_shillingsWord) v_bad_c1 rfl v_end (by exact e_v_end) v_tape (by exact e_v_tape) v_at_c2 rfl v_ended_c2 rfl hc_37) (by decide) rfl rfl (by first | decide | simp [Value.category]) dX12_numberPart_37 (cs2 := (0, 0)) rfl ?_
      refine zb_S (S2 := ((va_up (va_up I 128 (va_up (va_up (va_up (va_up (va_up (I 128) 19 v_at_c3) 21 v_ended_c3) 22 v_bad_c1) 23 v_badPlace_c1) 56 v_coded)) 173 v_codes), J, Rr, D)) (zS_eq ((zcgV ((zcgF (zn5 (by decide : (56 : Nat) ≠ 19) (by decide : (23 : Nat) ≠ 19) (by decide : (22 : Nat) ≠ 19) (by decide : (21 : Nat) ≠ 19))).trans (zn4 (by decide : (56 : Nat) ≠ 21) (by decide : (23 : Nat) ≠ 21) (by decide : (22 : Nat) ≠ 21)))).trans (zn2 (by decide : (173 : Nat) ≠ 128))) rfl) ?_
      refine zb_if_eq E dX12_numberPart_40 (tgt := 48) rfl (fun hc => ?_) (fun hc => ?_)
      · have h := if_t h hc
        refine zb_aload_n E dX12_numberPart_48 1 rfl rfl ?_
        refine zb_aload_n E dX12_numberPart_49 1 rfl rfl ?_
        refine zb_get E 128 (by decide) (zF_128 C.X) rfl zin12 40 (by decide) zw_1208 (v := .ref (C.X.1 + 158)) rfl dX12_numberPart_50 ?_
        obtain ⟨rc4, v_at_c4, v_ended_c4, hc_53, h⟩ := bd3_s h
        refine zb_cVi E [.ref (C.X.1 + 158)] 128 zy_X12_takes zw_1581 (by decide) (zF_128 _ _ _ _) rfl (c_X12_takes 158 (by decide) zF_158 (by decide) (va_up (va_up (va_up (va_up (va_up (I 128) 19 v_at_c3) 21 v_ended_c3) 22 v_bad_c1) 23 v_badPlace_c1) 56 v_coded) rfl v_poundsWord (by exact e_v_poundsWord) v_bad_c1 rfl v_end (by exact e_v_end) v_tape (by exact e_v_tape) v_at_c3 rfl v_ended_c3 rfl hc_53) (by decide) rfl rfl (by first | decide | simp [Value.category]) dX12_numberPart_53 (cs2 := (0, 0)) rfl ?_
        refine zb_S (S2 := ((va_up (va_up I 128 (va_up (va_up (va_up (va_up (va_up (I 128) 19 v_at_c4) 21 v_ended_c4) 22 v_bad_c1) 23 v_badPlace_c1) 56 v_coded)) 173 v_codes), J, Rr, D)) (zS_eq ((zcgV ((zcgF (zn5 (by decide : (56 : Nat) ≠ 19) (by decide : (23 : Nat) ≠ 19) (by decide : (22 : Nat) ≠ 19) (by decide : (21 : Nat) ≠ 19))).trans (zn4 (by decide : (56 : Nat) ≠ 21) (by decide : (23 : Nat) ≠ 21) (by decide : (22 : Nat) ≠ 21)))).trans (zn2 (by decide : (173 : Nat) ≠ 128))) rfl) ?_
        refine zb_if_eq E dX12_numberPart_56 (tgt := 65) rfl (fun hc => ?_) (fun hc => ?_)
        · have h := if_t h hc
          refine zb_iconst E dX12_numberPart_65 (v := 1) rfl ?_
          refine zb_sub [1, 0] rfl ?_
          exact c_X12_numberPart_b66 N v_end e_v_end v_penceWord e_v_penceWord v_poundsWord e_v_poundsWord v_shillingsWord e_v_shillingsWord v_tape e_v_tape y_v_at y_v_bad y_v_badPlace y_v_coded y_v_ended y_v_codes E hQ rc1 1 v_at_c4 v_bad_c1 v_badPlace_c1 v_coded v_ended_c4 v_codes h
        · have h := if_f h hc
          refine zb_sipush E dX12_numberPart_59 (v := 240) rfl ?_
          refine zb_goto E dX12_numberPart_62 (tgt := 66) rfl ?_
          refine zb_sub [1, 0] rfl ?_
          exact c_X12_numberPart_b66 N v_end e_v_end v_penceWord e_v_penceWord v_poundsWord e_v_poundsWord v_shillingsWord e_v_shillingsWord v_tape e_v_tape y_v_at y_v_bad y_v_badPlace y_v_coded y_v_ended y_v_codes E hQ rc1 240 v_at_c4 v_bad_c1 v_badPlace_c1 v_coded v_ended_c4 v_codes h
      · have h := if_f h hc
        refine zb_bipush E dX12_numberPart_43 (v := 12) rfl ?_
        refine zb_goto E dX12_numberPart_45 (tgt := 66) rfl ?_
        refine zb_sub [1, 0] rfl ?_
        exact c_X12_numberPart_b66 N v_end e_v_end v_penceWord e_v_penceWord v_poundsWord e_v_poundsWord v_shillingsWord e_v_shillingsWord v_tape e_v_tape y_v_at y_v_bad y_v_badPlace y_v_coded y_v_ended y_v_codes E hQ rc1 12 v_at_c3 v_bad_c1 v_badPlace_c1 v_coded v_ended_c3 v_codes h
    · have h := if_f h hc
      refine zb_iconst E dX12_numberPart_28 (v := 1) rfl ?_
      refine zb_goto E dX12_numberPart_29 (tgt := 66) rfl ?_
      refine zb_sub [1, 0] rfl ?_
      exact c_X12_numberPart_b66 N v_end e_v_end v_penceWord e_v_penceWord v_poundsWord e_v_poundsWord v_shillingsWord e_v_shillingsWord v_tape e_v_tape y_v_at y_v_bad y_v_badPlace y_v_coded y_v_ended y_v_codes E hQ rc1 1 v_at_c2 v_bad_c1 v_badPlace_c1 v_coded v_ended_c2 v_codes h
  · have h := if_f h hc
    obtain ⟨rfl, rfl, rfl, rfl, rfl, rfl⟩ := zinj6 h
    exact zb_vret E hQ rfl ⟨Nat.zero_le _, Nat.zero_le _⟩ dX12_numberPart_16
theorem c_X12_numberPart {l : Launch} {X : zX} {I : Nat → Nat → Int32} {J : Nat → Nat → Int64} {Rr : Nat → Nat → Option Nat} {D : zD} {N : Nat} (oI128 : Nat → Int32) (eoI128 : I 128 = oI128) (v_end : Int32) (e_v_end : I 128 20 = v_end) (v_penceWord : (Nat → Int32)) (e_v_penceWord : I 156 = v_penceWord) (v_poundsWord : (Nat → Int32)) (e_v_poundsWord : I 158 = v_poundsWord) (v_shillingsWord : (Nat → Int32)) (e_v_shillingsWord : I 157 = v_shillingsWord) (v_tape : (Nat → Int32)) (e_v_tape : I 143 = v_tape) (v_at : Int32) (e_v_at : I 128 19 = v_at) (v_bad : Int32) (e_v_bad : I 128 22 = v_bad) (v_badPlace : Int32) (e_v_badPlace : I 128 23 = v_badPlace) (v_coded : Int32) (e_v_coded : I 128 56 = v_coded) (v_ended : Int32) (e_v_ended : I 128 21 = v_ended) (v_codes : (Nat → Int32)) (e_v_codes : I 173 = v_codes) {y_v_at : Int32} {y_v_bad : Int32} {y_v_badPlace : Int32} {y_v_coded : Int32} {y_v_ended : Int32} {y_v_codes : (Nat → Int32)} (h : pM_numberPart N v_at v_bad v_badPlace v_coded v_end v_ended v_codes v_penceWord v_poundsWord v_shillingsWord v_tape = some (y_v_at, y_v_bad, y_v_badPlace, y_v_coded, y_v_ended, y_v_codes)) : zMv l yX12_numberPart cX12_numberPart 3 none ({ frames := 3, cells := 0, slots := 0, locals := 64 } : Room) X [.ref (X.1 + 128)] (I, J, Rr, D) ((va_up (va_up I 128 (va_up (va_up (va_up (va_up (va_up oI128 19 y_v_at) 21 y_v_ended) 22 y_v_bad) 23 y_v_badPlace) 56 y_v_coded)) 173 y_v_codes), J, Rr, D) := by
  subst eoI128
  refine zMv.of (by decide) (Nat.le_of_ble_eq_true rfl) (fun C E hl hX hQ => ?_)
  subst hl
  subst hX
  have eI0 : (va_up (va_up I 128 (va_up (va_up (va_up (va_up (va_up (I 128) 19 v_at) 21 v_ended) 22 v_bad) 23 v_badPlace) 56 v_coded)) 173 v_codes) = I := by rw [zup_idE e_v_at, zup_idE e_v_ended, zup_idE e_v_bad, zup_idE e_v_badPlace, zup_idE e_v_coded, zup_id, zup_idE e_v_codes]
  have eJ0 : J = J := rfl
  refine zb_S (S2 := ((va_up (va_up I 128 (va_up (va_up (va_up (va_up (va_up (I 128) 19 v_at) 21 v_ended) 22 v_bad) 23 v_badPlace) 56 v_coded)) 173 v_codes), J, Rr, D)) (zS_eq eI0.symm eJ0.symm) ?_
  exact c_X12_numberPart_0 N v_end e_v_end v_penceWord e_v_penceWord v_poundsWord e_v_poundsWord v_shillingsWord e_v_shillingsWord v_tape e_v_tape y_v_at y_v_bad y_v_badPlace y_v_coded y_v_ended y_v_codes E hQ v_at v_bad v_badPlace v_coded v_ended v_codes h
-- ChequeredClothModel.part
theorem dX12_part_0 : decode cX12_part 0 = .ok (.iconst 1, 1) := by decide +kernel
theorem dX12_part_1 : decode cX12_part 1 = .ok (.istore_n 1, 1) := by decide +kernel
theorem dX12_part_2 : decode cX12_part 2 = .ok (.iload_n 1, 1) := by decide +kernel
theorem dX12_part_3 : decode cX12_part 3 = .ok (.ifCond .eq 143, 3) := by decide +kernel
theorem dX12_part_6 : decode cX12_part 6 = .ok (.aload_n 0, 1) := by decide +kernel
theorem dX12_part_7 : decode cX12_part 7 = .ok (.getfield 275, 3) := by decide +kernel
theorem dX12_part_10 : decode cX12_part 10 = .ok (.ifCond .ne 136, 3) := by decide +kernel
theorem dX12_part_13 : decode cX12_part 13 = .ok (.aload_n 0, 1) := by decide +kernel
theorem dX12_part_14 : decode cX12_part 14 = .ok (.invokevirtual 287, 3) := by decide +kernel
theorem dX12_part_17 : decode cX12_part 17 = .ok (.istore_n 2, 1) := by decide +kernel
theorem dX12_part_18 : decode cX12_part 18 = .ok (.iload_n 2, 1) := by decide +kernel
theorem dX12_part_19 : decode cX12_part 19 = .ok (.bipush 40, 2) := by decide +kernel
theorem dX12_part_21 : decode cX12_part 21 = .ok (.if_icmp .ne 26, 3) := by decide +kernel
theorem dX12_part_24 : decode cX12_part 24 = .ok (.aload_n 0, 1) := by decide +kernel
theorem dX12_part_25 : decode cX12_part 25 = .ok (.bipush 20, 2) := by decide +kernel
theorem dX12_part_27 : decode cX12_part 27 = .ok (.aload_n 0, 1) := by decide +kernel
theorem dX12_part_28 : decode cX12_part 28 = .ok (.getfield 281, 3) := by decide +kernel
theorem dX12_part_31 : decode cX12_part 31 = .ok (.invokevirtual 335, 3) := by decide +kernel
theorem dX12_part_34 : decode cX12_part 34 = .ok (.aload_n 0, 1) := by decide +kernel
theorem dX12_part_35 : decode cX12_part 35 = .ok (.dup, 1) := by decide +kernel
theorem dX12_part_36 : decode cX12_part 36 = .ok (.getfield 281, 3) := by decide +kernel
theorem dX12_part_39 : decode cX12_part 39 = .ok (.iconst 1, 1) := by decide +kernel
theorem dX12_part_40 : decode cX12_part 40 = .ok (.iadd, 1) := by decide +kernel
theorem dX12_part_41 : decode cX12_part 41 = .ok (.putfield 281, 3) := by decide +kernel
theorem dX12_part_44 : decode cX12_part 44 = .ok (.goto 99, 3) := by decide +kernel
theorem dX12_part_47 : decode cX12_part 47 = .ok (.aload_n 0, 1) := by decide +kernel
theorem dX12_part_48 : decode cX12_part 48 = .ok (.aload_n 0, 1) := by decide +kernel
theorem dX12_part_49 : decode cX12_part 49 = .ok (.getfield 127, 3) := by decide +kernel
theorem dX12_part_52 : decode cX12_part 52 = .ok (.invokevirtual 297, 3) := by decide +kernel
theorem dX12_part_55 : decode cX12_part 55 = .ok (.ifCond .ne 14, 3) := by decide +kernel
theorem dX12_part_58 : decode cX12_part 58 = .ok (.aload_n 0, 1) := by decide +kernel
theorem dX12_part_59 : decode cX12_part 59 = .ok (.aload_n 0, 1) := by decide +kernel
theorem dX12_part_60 : decode cX12_part 60 = .ok (.getfield 130, 3) := by decide +kernel
theorem dX12_part_63 : decode cX12_part 63 = .ok (.invokevirtual 297, 3) := by decide +kernel
theorem dX12_part_66 : decode cX12_part 66 = .ok (.ifCond .eq 75, 3) := by decide +kernel
theorem dX12_part_69 : decode cX12_part 69 = .ok (.aload_n 0, 1) := by decide +kernel
theorem dX12_part_70 : decode cX12_part 70 = .ok (.aload_n 0, 1) := by decide +kernel
theorem dX12_part_71 : decode cX12_part 71 = .ok (.getfield 127, 3) := by decide +kernel
theorem dX12_part_74 : decode cX12_part 74 = .ok (.invokevirtual 301, 3) := by decide +kernel
theorem dX12_part_77 : decode cX12_part 77 = .ok (.istore_n 3, 1) := by decide +kernel
theorem dX12_part_78 : decode cX12_part 78 = .ok (.iload_n 3, 1) := by decide +kernel
theorem dX12_part_79 : decode cX12_part 79 = .ok (.ifCond .ne 11, 3) := by decide +kernel
theorem dX12_part_82 : decode cX12_part 82 = .ok (.aload_n 0, 1) := by decide +kernel
theorem dX12_part_83 : decode cX12_part 83 = .ok (.aload_n 0, 1) := by decide +kernel
theorem dX12_part_84 : decode cX12_part 84 = .ok (.getfield 130, 3) := by decide +kernel
theorem dX12_part_87 : decode cX12_part 87 = .ok (.invokevirtual 338, 3) := by decide +kernel
theorem dX12_part_90 : decode cX12_part 90 = .ok (.aload_n 0, 1) := by decide +kernel
theorem dX12_part_91 : decode cX12_part 91 = .ok (.invokevirtual 287, 3) := by decide +kernel
theorem dX12_part_94 : decode cX12_part 94 = .ok (.bipush 40, 2) := by decide +kernel
theorem dX12_part_96 : decode cX12_part 96 = .ok (.if_icmp .ne 10, 3) := by decide +kernel
theorem dX12_part_99 : decode cX12_part 99 = .ok (.aload_n 0, 1) := by decide +kernel
theorem dX12_part_100 : decode cX12_part 100 = .ok (.getfield 281, 3) := by decide +kernel
theorem dX12_part_103 : decode cX12_part 103 = .ok (.goto 4, 3) := by decide +kernel
theorem dX12_part_106 : decode cX12_part 106 = .ok (.iconst (-1), 1) := by decide +kernel
theorem dX12_part_107 : decode cX12_part 107 = .ok (.istore 4, 2) := by decide +kernel
theorem dX12_part_109 : decode cX12_part 109 = .ok (.iload 4, 2) := by decide +kernel
theorem dX12_part_111 : decode cX12_part 111 = .ok (.iconst (-1), 1) := by decide +kernel
theorem dX12_part_112 : decode cX12_part 112 = .ok (.if_icmp .eq 20, 3) := by decide +kernel
theorem dX12_part_115 : decode cX12_part 115 = .ok (.aload_n 0, 1) := by decide +kernel
theorem dX12_part_116 : decode cX12_part 116 = .ok (.iload_n 3, 1) := by decide +kernel
theorem dX12_part_117 : decode cX12_part 117 = .ok (.ifCond .eq 8, 3) := by decide +kernel
theorem dX12_part_120 : decode cX12_part 120 = .ok (.bipush 21, 2) := by decide +kernel
theorem dX12_part_122 : decode cX12_part 122 = .ok (.goto 5, 3) := by decide +kernel
theorem dX12_part_125 : decode cX12_part 125 = .ok (.bipush 22, 2) := by decide +kernel
theorem dX12_part_127 : decode cX12_part 127 = .ok (.iload 4, 2) := by decide +kernel
theorem dX12_part_129 : decode cX12_part 129 = .ok (.invokevirtual 335, 3) := by decide +kernel
theorem dX12_part_132 : decode cX12_part 132 = .ok (.aload_n 0, 1) := by decide +kernel
theorem dX12_part_133 : decode cX12_part 133 = .ok (.bipush 40, 2) := by decide +kernel
theorem dX12_part_135 : decode cX12_part 135 = .ok (.invokevirtual 342, 3) := by decide +kernel
theorem dX12_part_138 : decode cX12_part 138 = .ok (.goto 5, 3) := by decide +kernel
theorem dX12_part_141 : decode cX12_part 141 = .ok (.iconst 0, 1) := by decide +kernel
theorem dX12_part_142 : decode cX12_part 142 = .ok (.istore_n 1, 1) := by decide +kernel
theorem dX12_part_143 : decode cX12_part 143 = .ok (.goto (-141), 3) := by decide +kernel
theorem dX12_part_146 : decode cX12_part 146 = .ok (.aload_n 0, 1) := by decide +kernel
theorem dX12_part_147 : decode cX12_part 147 = .ok (.getfield 275, 3) := by decide +kernel
theorem dX12_part_150 : decode cX12_part 150 = .ok (.ifCond .eq 4, 3) := by decide +kernel
theorem dX12_part_153 : decode cX12_part 153 = .ok (.return_, 1) := by decide +kernel
theorem dX12_part_154 : decode cX12_part 154 = .ok (.aload_n 0, 1) := by decide +kernel
theorem dX12_part_155 : decode cX12_part 155 = .ok (.aload_n 0, 1) := by decide +kernel
theorem dX12_part_156 : decode cX12_part 156 = .ok (.getfield 115, 3) := by decide +kernel
theorem dX12_part_159 : decode cX12_part 159 = .ok (.invokevirtual 301, 3) := by decide +kernel
theorem dX12_part_162 : decode cX12_part 162 = .ok (.ifCond .eq 12, 3) := by decide +kernel
theorem dX12_part_165 : decode cX12_part 165 = .ok (.aload_n 0, 1) := by decide +kernel
theorem dX12_part_166 : decode cX12_part 166 = .ok (.bipush 7, 2) := by decide +kernel
theorem dX12_part_168 : decode cX12_part 168 = .ok (.invokevirtual 323, 3) := by decide +kernel
theorem dX12_part_171 : decode cX12_part 171 = .ok (.goto 67, 3) := by decide +kernel
theorem dX12_part_174 : decode cX12_part 174 = .ok (.aload_n 0, 1) := by decide +kernel
theorem dX12_part_175 : decode cX12_part 175 = .ok (.aload_n 0, 1) := by decide +kernel
theorem dX12_part_176 : decode cX12_part 176 = .ok (.getfield 118, 3) := by decide +kernel
theorem dX12_part_179 : decode cX12_part 179 = .ok (.invokevirtual 301, 3) := by decide +kernel
theorem dX12_part_182 : decode cX12_part 182 = .ok (.ifCond .eq 12, 3) := by decide +kernel
theorem dX12_part_185 : decode cX12_part 185 = .ok (.aload_n 0, 1) := by decide +kernel
theorem dX12_part_186 : decode cX12_part 186 = .ok (.bipush 8, 2) := by decide +kernel
theorem dX12_part_188 : decode cX12_part 188 = .ok (.invokevirtual 323, 3) := by decide +kernel
theorem dX12_part_191 : decode cX12_part 191 = .ok (.goto 47, 3) := by decide +kernel
theorem dX12_part_194 : decode cX12_part 194 = .ok (.aload_n 0, 1) := by decide +kernel
theorem dX12_part_195 : decode cX12_part 195 = .ok (.aload_n 0, 1) := by decide +kernel
theorem dX12_part_196 : decode cX12_part 196 = .ok (.getfield 121, 3) := by decide +kernel
theorem dX12_part_199 : decode cX12_part 199 = .ok (.invokevirtual 301, 3) := by decide +kernel
theorem dX12_part_202 : decode cX12_part 202 = .ok (.ifCond .eq 12, 3) := by decide +kernel
theorem dX12_part_205 : decode cX12_part 205 = .ok (.aload_n 0, 1) := by decide +kernel
theorem dX12_part_206 : decode cX12_part 206 = .ok (.bipush 9, 2) := by decide +kernel
theorem dX12_part_208 : decode cX12_part 208 = .ok (.invokevirtual 323, 3) := by decide +kernel
theorem dX12_part_211 : decode cX12_part 211 = .ok (.goto 27, 3) := by decide +kernel
theorem dX12_part_214 : decode cX12_part 214 = .ok (.aload_n 0, 1) := by decide +kernel
theorem dX12_part_215 : decode cX12_part 215 = .ok (.aload_n 0, 1) := by decide +kernel
theorem dX12_part_216 : decode cX12_part 216 = .ok (.getfield 124, 3) := by decide +kernel
theorem dX12_part_219 : decode cX12_part 219 = .ok (.invokevirtual 301, 3) := by decide +kernel
theorem dX12_part_222 : decode cX12_part 222 = .ok (.ifCond .eq 12, 3) := by decide +kernel
theorem dX12_part_225 : decode cX12_part 225 = .ok (.aload_n 0, 1) := by decide +kernel
theorem dX12_part_226 : decode cX12_part 226 = .ok (.bipush 10, 2) := by decide +kernel
theorem dX12_part_228 : decode cX12_part 228 = .ok (.invokevirtual 323, 3) := by decide +kernel
theorem dX12_part_231 : decode cX12_part 231 = .ok (.goto 7, 3) := by decide +kernel
theorem dX12_part_234 : decode cX12_part 234 = .ok (.aload_n 0, 1) := by decide +kernel
theorem dX12_part_235 : decode cX12_part 235 = .ok (.invokevirtual 345, 3) := by decide +kernel
theorem dX12_part_238 : decode cX12_part 238 = .ok (.return_, 1) := by decide +kernel
theorem zy_X12_part : zYv yX12_part cX12_part 5 none 0 := ⟨zw_1598, zws_62, zw_12, zw_1599, by decide, by decide, by decide⟩
theorem c_X12_part_b132 {C : zC} {I : Nat → Nat → Int32} {J : Nat → Nat → Int64} {Rr : Nat → Nat → Option Nat} {D : zD} (N : Nat) (v_end : Int32) (e_v_end : I 128 20 = v_end) (v_debtWord : (Nat → Int32)) (e_v_debtWord : I 161 = v_debtWord) (v_maxWord : (Nat → Int32)) (e_v_maxWord : I 164 = v_maxWord) (v_minWord : (Nat → Int32)) (e_v_minWord : I 163 = v_minWord) (v_paidWord : (Nat → Int32)) (e_v_paidWord : I 162 = v_paidWord) (v_penceWord : (Nat → Int32)) (e_v_penceWord : I 156 = v_penceWord) (v_poundsWord : (Nat → Int32)) (e_v_poundsWord : I 158 = v_poundsWord) (v_shillingsWord : (Nat → Int32)) (e_v_shillingsWord : I 157 = v_shillingsWord) (v_tape : (Nat → Int32)) (e_v_tape : I 143 = v_tape) (v_termWord : (Nat → Int32)) (e_v_termWord : I 159 = v_termWord) (v_yearWord : (Nat → Int32)) (e_v_yearWord : I 160 = v_yearWord) (y_v_at : Int32) (y_v_bad : Int32) (y_v_badPlace : Int32) (y_v_coded : Int32) (y_v_ended : Int32) (y_v_open : Int32) (y_v_waits : Int32) (y_v_codes : (Nat → Int32)) (y_v_wait : (Nat → Int32)) (E : zE C RX12 cX12_part 5 none ({ frames := 4, cells := 0, slots := 0, locals := 86 } : Room)) (hQ : C.Q = zQv C ({ frames := 4, cells := 0, slots := 0, locals := 86 } : Room) ((va_up (va_up (va_up I 128 (va_up (va_up (va_up (va_up (va_up (va_up (va_up (I 128) 19 y_v_at) 21 y_v_ended) 22 y_v_bad) 23 y_v_badPlace) 56 y_v_coded) 58 y_v_waits) 59 y_v_open)) 173 y_v_codes) 174 y_v_wait), J, Rr, D)) (x1 : Int32) (v_at : Int32) (v_bad : Int32) (v_badPlace : Int32) (v_coded : Int32) (v_ended : Int32) (v_open : Int32) (v_waits : Int32) (v_codes : (Nat → Int32)) (v_wait : (Nat → Int32)) (self : Int32 → Int32 → Int32 → Int32 → Int32 → Int32 → Int32 → (Nat → Int32) → Option R_pM_part) (ih : ∀ (x1 : Int32) (v_at : Int32) (v_bad : Int32) (v_badPlace : Int32) (v_ended : Int32) (v_open : Int32) (v_waits : Int32) (v_wait : (Nat → Int32)), self x1 v_at v_bad v_badPlace v_ended v_open v_waits v_wait = some (y_v_at, y_v_bad, y_v_badPlace, y_v_coded, y_v_ended, y_v_open, y_v_waits, y_v_codes, y_v_wait) → zB C (0, 0) 2 [(0, .ref (C.X.1 + 128)), (1, .int x1)] [] ((va_up (va_up (va_up I 128 (va_up (va_up (va_up (va_up (va_up (va_up (va_up (I 128) 19 v_at) 21 v_ended) 22 v_bad) 23 v_badPlace) 56 v_coded) 58 v_waits) 59 v_open)) 173 v_codes) 174 v_wait), J, Rr, D)) (k146 : Int32 → Int32 → Int32 → Int32 → Int32 → Int32 → (Nat → Int32) → Option R_pM_part) (hk146 : ∀ (v_at : Int32) (v_bad : Int32) (v_badPlace : Int32) (v_ended : Int32) (v_open : Int32) (v_waits : Int32) (v_wait : (Nat → Int32)), k146 v_at v_bad v_badPlace v_ended v_open v_waits v_wait = some (y_v_at, y_v_bad, y_v_badPlace, y_v_coded, y_v_ended, y_v_open, y_v_waits, y_v_codes, y_v_wait) → zB C (0, 0) 146 [(0, .ref (C.X.1 + 128))] [] ((va_up (va_up (va_up I 128 (va_up (va_up (va_up (va_up (va_up (va_up (va_up (I 128) 19 v_at) 21 v_ended) 22 v_bad) 23 v_badPlace) 56 v_coded) 58 v_waits) 59 v_open)) 173 v_codes) 174 v_wait), J, Rr, D)) (h : pM_part_b132 N v_end v_debtWord v_maxWord v_minWord v_paidWord v_penceWord v_poundsWord v_shillingsWord v_tape v_termWord v_yearWord self k146 x1 v_at v_bad v_badPlace v_coded v_ended v_open v_waits v_codes v_wait = some (y_v_at, y_v_bad, y_v_badPlace, y_v_coded, y_v_ended, y_v_open, y_v_waits, y_v_codes, y_v_wait)) : zB C (0, 0) 132 [(0, .ref (C.X.1 + 128)), (1, .int x1)] [] ((va_up (va_up (va_up I 128 (va_up (va_up (va_up (va_up (va_up (va_up (va_up (I 128) 19 v_at) 21 v_ended) 22 v_bad) 23 v_badPlace) 56 v_coded) 58 v_waits) 59 v_open)) 173 v_codes) 174 v_wait), J, Rr, D) := by
  refine zb_aload_n E dX12_part_132 0 rfl rfl ?_
  refine zb_bipush E dX12_part_133 (v := 40) rfl ?_
  obtain ⟨v_at_c17, v_bad_c17, v_badPlace_c17, hc_135, h⟩ := bd3_s h
  refine zb_cVv E [.int 40] 128 zy_X12_asksSign zw_1608 (by decide) (zF_128 _ _ _ _) rfl (c_X12_asksSign (va_up (va_up (va_up (va_up (va_up (va_up (va_up (I 128) 19 v_at) 21 v_ended) 22 v_bad) 23 v_badPlace) 56 v_coded) 58 v_waits) 59 v_open) rfl v_end (by exact e_v_end) v_tape (by exact e_v_tape) v_at rfl v_bad rfl v_badPlace rfl hc_135) (by decide) rfl rfl (by first | decide | simp [Value.category]) dX12_part_135 (cs2 := (0, 0)) rfl ?_
  refine zb_S (S2 := ((va_up (va_up (va_up I 128 (va_up (va_up (va_up (va_up (va_up (va_up (va_up (I 128) 19 v_at_c17) 21 v_ended) 22 v_bad_c17) 23 v_badPlace_c17) 56 v_coded) 58 v_waits) 59 v_open)) 173 v_codes) 174 v_wait), J, Rr, D)) (zS_eq ((zcgV ((zcgF ((zcgF (zn7 (by decide : (59 : Nat) ≠ 19) (by decide : (58 : Nat) ≠ 19) (by decide : (56 : Nat) ≠ 19) (by decide : (23 : Nat) ≠ 19) (by decide : (22 : Nat) ≠ 19) (by decide : (21 : Nat) ≠ 19))).trans (zn5 (by decide : (59 : Nat) ≠ 22) (by decide : (58 : Nat) ≠ 22) (by decide : (56 : Nat) ≠ 22) (by decide : (23 : Nat) ≠ 22)))).trans (zn4 (by decide : (59 : Nat) ≠ 23) (by decide : (58 : Nat) ≠ 23) (by decide : (56 : Nat) ≠ 23)))).trans (zn3 (by decide : (174 : Nat) ≠ 128) (by decide : (173 : Nat) ≠ 128))) rfl) ?_
  refine zb_goto E dX12_part_138 (tgt := 143) rfl ?_
  refine zb_goto E dX12_part_143 (tgt := 2) rfl ?_
  exact ih x1 v_at_c17 v_bad_c17 v_badPlace_c17 v_ended v_open v_waits v_wait h
theorem c_X12_part_b127 {C : zC} {I : Nat → Nat → Int32} {J : Nat → Nat → Int64} {Rr : Nat → Nat → Option Nat} {D : zD} (N : Nat) (v_end : Int32) (e_v_end : I 128 20 = v_end) (v_debtWord : (Nat → Int32)) (e_v_debtWord : I 161 = v_debtWord) (v_maxWord : (Nat → Int32)) (e_v_maxWord : I 164 = v_maxWord) (v_minWord : (Nat → Int32)) (e_v_minWord : I 163 = v_minWord) (v_paidWord : (Nat → Int32)) (e_v_paidWord : I 162 = v_paidWord) (v_penceWord : (Nat → Int32)) (e_v_penceWord : I 156 = v_penceWord) (v_poundsWord : (Nat → Int32)) (e_v_poundsWord : I 158 = v_poundsWord) (v_shillingsWord : (Nat → Int32)) (e_v_shillingsWord : I 157 = v_shillingsWord) (v_tape : (Nat → Int32)) (e_v_tape : I 143 = v_tape) (v_termWord : (Nat → Int32)) (e_v_termWord : I 159 = v_termWord) (v_yearWord : (Nat → Int32)) (e_v_yearWord : I 160 = v_yearWord) (y_v_at : Int32) (y_v_bad : Int32) (y_v_badPlace : Int32) (y_v_coded : Int32) (y_v_ended : Int32) (y_v_open : Int32) (y_v_waits : Int32) (y_v_codes : (Nat → Int32)) (y_v_wait : (Nat → Int32)) (E : zE C RX12 cX12_part 5 none ({ frames := 4, cells := 0, slots := 0, locals := 86 } : Room)) (hQ : C.Q = zQv C ({ frames := 4, cells := 0, slots := 0, locals := 86 } : Room) ((va_up (va_up (va_up I 128 (va_up (va_up (va_up (va_up (va_up (va_up (va_up (I 128) 19 y_v_at) 21 y_v_ended) 22 y_v_bad) 23 y_v_badPlace) 56 y_v_coded) 58 y_v_waits) 59 y_v_open)) 173 y_v_codes) 174 y_v_wait), J, Rr, D)) (x1 : Int32) (x4 : Int32) (s1 : Int32) (v_at : Int32) (v_bad : Int32) (v_badPlace : Int32) (v_coded : Int32) (v_ended : Int32) (v_open : Int32) (v_waits : Int32) (v_codes : (Nat → Int32)) (v_wait : (Nat → Int32)) (self : Int32 → Int32 → Int32 → Int32 → Int32 → Int32 → Int32 → (Nat → Int32) → Option R_pM_part) (ih : ∀ (x1 : Int32) (v_at : Int32) (v_bad : Int32) (v_badPlace : Int32) (v_ended : Int32) (v_open : Int32) (v_waits : Int32) (v_wait : (Nat → Int32)), self x1 v_at v_bad v_badPlace v_ended v_open v_waits v_wait = some (y_v_at, y_v_bad, y_v_badPlace, y_v_coded, y_v_ended, y_v_open, y_v_waits, y_v_codes, y_v_wait) → zB C (0, 0) 2 [(0, .ref (C.X.1 + 128)), (1, .int x1)] [] ((va_up (va_up (va_up I 128 (va_up (va_up (va_up (va_up (va_up (va_up (va_up (I 128) 19 v_at) 21 v_ended) 22 v_bad) 23 v_badPlace) 56 v_coded) 58 v_waits) 59 v_open)) 173 v_codes) 174 v_wait), J, Rr, D)) (k146 : Int32 → Int32 → Int32 → Int32 → Int32 → Int32 → (Nat → Int32) → Option R_pM_part) (hk146 : ∀ (v_at : Int32) (v_bad : Int32) (v_badPlace : Int32) (v_ended : Int32) (v_open : Int32) (v_waits : Int32) (v_wait : (Nat → Int32)), k146 v_at v_bad v_badPlace v_ended v_open v_waits v_wait = some (y_v_at, y_v_bad, y_v_badPlace, y_v_coded, y_v_ended, y_v_open, y_v_waits, y_v_codes, y_v_wait) → zB C (0, 0) 146 [(0, .ref (C.X.1 + 128))] [] ((va_up (va_up (va_up I 128 (va_up (va_up (va_up (va_up (va_up (va_up (va_up (I 128) 19 v_at) 21 v_ended) 22 v_bad) 23 v_badPlace) 56 v_coded) 58 v_waits) 59 v_open)) 173 v_codes) 174 v_wait), J, Rr, D)) (h : pM_part_b127 N v_end v_debtWord v_maxWord v_minWord v_paidWord v_penceWord v_poundsWord v_shillingsWord v_tape v_termWord v_yearWord self k146 x1 x4 s1 v_at v_bad v_badPlace v_coded v_ended v_open v_waits v_codes v_wait = some (y_v_at, y_v_bad, y_v_badPlace, y_v_coded, y_v_ended, y_v_open, y_v_waits, y_v_codes, y_v_wait)) : zB C (0, 0) 127 [(0, .ref (C.X.1 + 128)), (1, .int x1), (4, .int x4)] [.int s1, .ref (C.X.1 + 128)] ((va_up (va_up (va_up I 128 (va_up (va_up (va_up (va_up (va_up (va_up (va_up (I 128) 19 v_at) 21 v_ended) 22 v_bad) 23 v_badPlace) 56 v_coded) 58 v_waits) 59 v_open)) 173 v_codes) 174 v_wait), J, Rr, D) := by
  refine zb_iload E dX12_part_127 2 rfl ?_
  obtain ⟨v_bad_c18, v_badPlace_c18, v_open_c18, v_waits_c18, v_wait_c18, hc_129, h⟩ := bd5_s h
  refine zb_cVv E [.int s1, .int x4] 128 zy_X12_opens zw_1600 (by decide) (zF_128 _ _ _ _) rfl (c_X12_opens (va_up (va_up (va_up (va_up (va_up (va_up (va_up (I 128) 19 v_at) 21 v_ended) 22 v_bad) 23 v_badPlace) 56 v_coded) 58 v_waits) 59 v_open) rfl v_bad rfl v_badPlace rfl v_open rfl v_waits rfl v_wait rfl hc_129) (by decide) rfl rfl (by first | decide | simp [Value.category]) dX12_part_129 (cs2 := (0, 0)) rfl ?_
  refine zb_S (S2 := ((va_up (va_up (va_up I 128 (va_up (va_up (va_up (va_up (va_up (va_up (va_up (I 128) 19 v_at) 21 v_ended) 22 v_bad_c18) 23 v_badPlace_c18) 56 v_coded) 58 v_waits_c18) 59 v_open_c18)) 173 v_codes) 174 v_wait_c18), J, Rr, D)) (zS_eq ((zcgF ((zcgV ((zcgF ((zcgF ((zcgF (zn5 (by decide : (59 : Nat) ≠ 22) (by decide : (58 : Nat) ≠ 22) (by decide : (56 : Nat) ≠ 22) (by decide : (23 : Nat) ≠ 22))).trans (zn4 (by decide : (59 : Nat) ≠ 23) (by decide : (58 : Nat) ≠ 23) (by decide : (56 : Nat) ≠ 23)))).trans (zn2 (by decide : (59 : Nat) ≠ 58)))).trans zn1)).trans (zn3 (by decide : (174 : Nat) ≠ 128) (by decide : (173 : Nat) ≠ 128)))).trans zn1) rfl) ?_
  refine zb_sub [0, 1] rfl ?_
  exact c_X12_part_b132 N v_end e_v_end v_debtWord e_v_debtWord v_maxWord e_v_maxWord v_minWord e_v_minWord v_paidWord e_v_paidWord v_penceWord e_v_penceWord v_poundsWord e_v_poundsWord v_shillingsWord e_v_shillingsWord v_tape e_v_tape v_termWord e_v_termWord v_yearWord e_v_yearWord y_v_at y_v_bad y_v_badPlace y_v_coded y_v_ended y_v_open y_v_waits y_v_codes y_v_wait E hQ x1 v_at v_bad_c18 v_badPlace_c18 v_coded v_ended v_open_c18 v_waits_c18 v_codes v_wait_c18 self ih k146 hk146 h
theorem c_X12_part_b107 {C : zC} {I : Nat → Nat → Int32} {J : Nat → Nat → Int64} {Rr : Nat → Nat → Option Nat} {D : zD} (N : Nat) (v_end : Int32) (e_v_end : I 128 20 = v_end) (v_debtWord : (Nat → Int32)) (e_v_debtWord : I 161 = v_debtWord) (v_maxWord : (Nat → Int32)) (e_v_maxWord : I 164 = v_maxWord) (v_minWord : (Nat → Int32)) (e_v_minWord : I 163 = v_minWord) (v_paidWord : (Nat → Int32)) (e_v_paidWord : I 162 = v_paidWord) (v_penceWord : (Nat → Int32)) (e_v_penceWord : I 156 = v_penceWord) (v_poundsWord : (Nat → Int32)) (e_v_poundsWord : I 158 = v_poundsWord) (v_shillingsWord : (Nat → Int32)) (e_v_shillingsWord : I 157 = v_shillingsWord) (v_tape : (Nat → Int32)) (e_v_tape : I 143 = v_tape) (v_termWord : (Nat → Int32)) (e_v_termWord : I 159 = v_termWord) (v_yearWord : (Nat → Int32)) (e_v_yearWord : I 160 = v_yearWord) (y_v_at : Int32) (y_v_bad : Int32) (y_v_badPlace : Int32) (y_v_coded : Int32) (y_v_ended : Int32) (y_v_open : Int32) (y_v_waits : Int32) (y_v_codes : (Nat → Int32)) (y_v_wait : (Nat → Int32)) (E : zE C RX12 cX12_part 5 none ({ frames := 4, cells := 0, slots := 0, locals := 86 } : Room)) (hQ : C.Q = zQv C ({ frames := 4, cells := 0, slots := 0, locals := 86 } : Room) ((va_up (va_up (va_up I 128 (va_up (va_up (va_up (va_up (va_up (va_up (va_up (I 128) 19 y_v_at) 21 y_v_ended) 22 y_v_bad) 23 y_v_badPlace) 56 y_v_coded) 58 y_v_waits) 59 y_v_open)) 173 y_v_codes) 174 y_v_wait), J, Rr, D)) (x1 : Int32) (x3 : Int32) (s0 : Int32) (v_at : Int32) (v_bad : Int32) (v_badPlace : Int32) (v_coded : Int32) (v_ended : Int32) (v_open : Int32) (v_waits : Int32) (v_codes : (Nat → Int32)) (v_wait : (Nat → Int32)) (self : Int32 → Int32 → Int32 → Int32 → Int32 → Int32 → Int32 → (Nat → Int32) → Option R_pM_part) (ih : ∀ (x1 : Int32) (v_at : Int32) (v_bad : Int32) (v_badPlace : Int32) (v_ended : Int32) (v_open : Int32) (v_waits : Int32) (v_wait : (Nat → Int32)), self x1 v_at v_bad v_badPlace v_ended v_open v_waits v_wait = some (y_v_at, y_v_bad, y_v_badPlace, y_v_coded, y_v_ended, y_v_open, y_v_waits, y_v_codes, y_v_wait) → zB C (0, 0) 2 [(0, .ref (C.X.1 + 128)), (1, .int x1)] [] ((va_up (va_up (va_up I 128 (va_up (va_up (va_up (va_up (va_up (va_up (va_up (I 128) 19 v_at) 21 v_ended) 22 v_bad) 23 v_badPlace) 56 v_coded) 58 v_waits) 59 v_open)) 173 v_codes) 174 v_wait), J, Rr, D)) (k146 : Int32 → Int32 → Int32 → Int32 → Int32 → Int32 → (Nat → Int32) → Option R_pM_part) (hk146 : ∀ (v_at : Int32) (v_bad : Int32) (v_badPlace : Int32) (v_ended : Int32) (v_open : Int32) (v_waits : Int32) (v_wait : (Nat → Int32)), k146 v_at v_bad v_badPlace v_ended v_open v_waits v_wait = some (y_v_at, y_v_bad, y_v_badPlace, y_v_coded, y_v_ended, y_v_open, y_v_waits, y_v_codes, y_v_wait) → zB C (0, 0) 146 [(0, .ref (C.X.1 + 128))] [] ((va_up (va_up (va_up I 128 (va_up (va_up (va_up (va_up (va_up (va_up (va_up (I 128) 19 v_at) 21 v_ended) 22 v_bad) 23 v_badPlace) 56 v_coded) 58 v_waits) 59 v_open)) 173 v_codes) 174 v_wait), J, Rr, D)) (h : pM_part_b107 N v_end v_debtWord v_maxWord v_minWord v_paidWord v_penceWord v_poundsWord v_shillingsWord v_tape v_termWord v_yearWord self k146 x1 x3 s0 v_at v_bad v_badPlace v_coded v_ended v_open v_waits v_codes v_wait = some (y_v_at, y_v_bad, y_v_badPlace, y_v_coded, y_v_ended, y_v_open, y_v_waits, y_v_codes, y_v_wait)) : zB C (0, 0) 107 [(0, .ref (C.X.1 + 128)), (1, .int x1), (3, .int x3)] [.int s0] ((va_up (va_up (va_up I 128 (va_up (va_up (va_up (va_up (va_up (va_up (va_up (I 128) 19 v_at) 21 v_ended) 22 v_bad) 23 v_badPlace) 56 v_coded) 58 v_waits) 59 v_open)) 173 v_codes) 174 v_wait), J, Rr, D) := by
  refine zb_istore E dX12_part_107 (by decide) (lv2 := [(4, .int s0), (0, .ref (C.X.1 + 128)), (1, .int x1), (3, .int x3)]) rfl ?_
  refine zb_iload E dX12_part_109 0 rfl ?_
  refine zb_iconst E dX12_part_111 (v := (-1)) rfl ?_
  refine zb_icmp_eq E dX12_part_112 (tgt := 132) rfl (fun hc => ?_) (fun hc => ?_)
  · have h := if_t h hc
    refine zb_sub [1, 2] rfl ?_
    exact c_X12_part_b132 N v_end e_v_end v_debtWord e_v_debtWord v_maxWord e_v_maxWord v_minWord e_v_minWord v_paidWord e_v_paidWord v_penceWord e_v_penceWord v_poundsWord e_v_poundsWord v_shillingsWord e_v_shillingsWord v_tape e_v_tape v_termWord e_v_termWord v_yearWord e_v_yearWord y_v_at y_v_bad y_v_badPlace y_v_coded y_v_ended y_v_open y_v_waits y_v_codes y_v_wait E hQ x1 v_at v_bad v_badPlace v_coded v_ended v_open v_waits v_codes v_wait self ih k146 hk146 h
  · have h := if_f h hc
    refine zb_aload_n E dX12_part_115 1 rfl rfl ?_
    refine zb_iload_n E dX12_part_116 3 rfl rfl ?_
    refine zb_if_eq E dX12_part_117 (tgt := 125) rfl (fun hc => ?_) (fun hc => ?_)
    · have h := if_t h hc
      refine zb_bipush E dX12_part_125 (v := 22) rfl ?_
      refine zb_sub [1, 2, 0] rfl ?_
      exact c_X12_part_b127 N v_end e_v_end v_debtWord e_v_debtWord v_maxWord e_v_maxWord v_minWord e_v_minWord v_paidWord e_v_paidWord v_penceWord e_v_penceWord v_poundsWord e_v_poundsWord v_shillingsWord e_v_shillingsWord v_tape e_v_tape v_termWord e_v_termWord v_yearWord e_v_yearWord y_v_at y_v_bad y_v_badPlace y_v_coded y_v_ended y_v_open y_v_waits y_v_codes y_v_wait E hQ x1 s0 22 v_at v_bad v_badPlace v_coded v_ended v_open v_waits v_codes v_wait self ih k146 hk146 h
    · have h := if_f h hc
      refine zb_bipush E dX12_part_120 (v := 21) rfl ?_
      refine zb_goto E dX12_part_122 (tgt := 127) rfl ?_
      refine zb_sub [1, 2, 0] rfl ?_
      exact c_X12_part_b127 N v_end e_v_end v_debtWord e_v_debtWord v_maxWord e_v_maxWord v_minWord e_v_minWord v_paidWord e_v_paidWord v_penceWord e_v_penceWord v_poundsWord e_v_poundsWord v_shillingsWord e_v_shillingsWord v_tape e_v_tape v_termWord e_v_termWord v_yearWord e_v_yearWord y_v_at y_v_bad y_v_badPlace y_v_coded y_v_ended y_v_open y_v_waits y_v_codes y_v_wait E hQ x1 s0 21 v_at v_bad v_badPlace v_coded v_ended v_open v_waits v_codes v_wait self ih k146 hk146 h
theorem c_X12_part_b90 {C : zC} {I : Nat → Nat → Int32} {J : Nat → Nat → Int64} {Rr : Nat → Nat → Option Nat} {D : zD} (N : Nat) (v_end : Int32) (e_v_end : I 128 20 = v_end) (v_debtWord : (Nat → Int32)) (e_v_debtWord : I 161 = v_debtWord) (v_maxWord : (Nat → Int32)) (e_v_maxWord : I 164 = v_maxWord) (v_minWord : (Nat → Int32)) (e_v_minWord : I 163 = v_minWord) (v_paidWord : (Nat → Int32)) (e_v_paidWord : I 162 = v_paidWord) (v_penceWord : (Nat → Int32)) (e_v_penceWord : I 156 = v_penceWord) (v_poundsWord : (Nat → Int32)) (e_v_poundsWord : I 158 = v_poundsWord) (v_shillingsWord : (Nat → Int32)) (e_v_shillingsWord : I 157 = v_shillingsWord) (v_tape : (Nat → Int32)) (e_v_tape : I 143 = v_tape) (v_termWord : (Nat → Int32)) (e_v_termWord : I 159 = v_termWord) (v_yearWord : (Nat → Int32)) (e_v_yearWord : I 160 = v_yearWord) (y_v_at : Int32) (y_v_bad : Int32) (y_v_badPlace : Int32) (y_v_coded : Int32) (y_v_ended : Int32) (y_v_open : Int32) (y_v_waits : Int32) (y_v_codes : (Nat → Int32)) (y_v_wait : (Nat → Int32)) (E : zE C RX12 cX12_part 5 none ({ frames := 4, cells := 0, slots := 0, locals := 86 } : Room)) (hQ : C.Q = zQv C ({ frames := 4, cells := 0, slots := 0, locals := 86 } : Room) ((va_up (va_up (va_up I 128 (va_up (va_up (va_up (va_up (va_up (va_up (va_up (I 128) 19 y_v_at) 21 y_v_ended) 22 y_v_bad) 23 y_v_badPlace) 56 y_v_coded) 58 y_v_waits) 59 y_v_open)) 173 y_v_codes) 174 y_v_wait), J, Rr, D)) (x1 : Int32) (x3 : Int32) (v_at : Int32) (v_bad : Int32) (v_badPlace : Int32) (v_coded : Int32) (v_ended : Int32) (v_open : Int32) (v_waits : Int32) (v_codes : (Nat → Int32)) (v_wait : (Nat → Int32)) (self : Int32 → Int32 → Int32 → Int32 → Int32 → Int32 → Int32 → (Nat → Int32) → Option R_pM_part) (ih : ∀ (x1 : Int32) (v_at : Int32) (v_bad : Int32) (v_badPlace : Int32) (v_ended : Int32) (v_open : Int32) (v_waits : Int32) (v_wait : (Nat → Int32)), self x1 v_at v_bad v_badPlace v_ended v_open v_waits v_wait = some (y_v_at, y_v_bad, y_v_badPlace, y_v_coded, y_v_ended, y_v_open, y_v_waits, y_v_codes, y_v_wait) → zB C (0, 0) 2 [(0, .ref (C.X.1 + 128)), (1, .int x1)] [] ((va_up (va_up (va_up I 128 (va_up (va_up (va_up (va_up (va_up (va_up (va_up (I 128) 19 v_at) 21 v_ended) 22 v_bad) 23 v_badPlace) 56 v_coded) 58 v_waits) 59 v_open)) 173 v_codes) 174 v_wait), J, Rr, D)) (k146 : Int32 → Int32 → Int32 → Int32 → Int32 → Int32 → (Nat → Int32) → Option R_pM_part) (hk146 : ∀ (v_at : Int32) (v_bad : Int32) (v_badPlace : Int32) (v_ended : Int32) (v_open : Int32) (v_waits : Int32) (v_wait : (Nat → Int32)), k146 v_at v_bad v_badPlace v_ended v_open v_waits v_wait = some (y_v_at, y_v_bad, y_v_badPlace, y_v_coded, y_v_ended, y_v_open, y_v_waits, y_v_codes, y_v_wait) → zB C (0, 0) 146 [(0, .ref (C.X.1 + 128))] [] ((va_up (va_up (va_up I 128 (va_up (va_up (va_up (va_up (va_up (va_up (va_up (I 128) 19 v_at) 21 v_ended) 22 v_bad) 23 v_badPlace) 56 v_coded) 58 v_waits) 59 v_open)) 173 v_codes) 174 v_wait), J, Rr, D)) (h : pM_part_b90 N v_end v_debtWord v_maxWord v_minWord v_paidWord v_penceWord v_poundsWord v_shillingsWord v_tape v_termWord v_yearWord self k146 x1 x3 v_at v_bad v_badPlace v_coded v_ended v_open v_waits v_codes v_wait = some (y_v_at, y_v_bad, y_v_badPlace, y_v_coded, y_v_ended, y_v_open, y_v_waits, y_v_codes, y_v_wait)) : zB C (0, 0) 90 [(0, .ref (C.X.1 + 128)), (1, .int x1), (3, .int x3)] [] ((va_up (va_up (va_up I 128 (va_up (va_up (va_up (va_up (va_up (va_up (va_up (I 128) 19 v_at) 21 v_ended) 22 v_bad) 23 v_badPlace) 56 v_coded) 58 v_waits) 59 v_open)) 173 v_codes) 174 v_wait), J, Rr, D) := by
  refine zb_aload_n E dX12_part_90 0 rfl rfl ?_
  obtain ⟨rc16, v_at_c16, hc_91, h⟩ := bd2_s h
  refine zb_cVi E [] 128 zy_X12_look zw_1569 (by decide) (zF_128 _ _ _ _) rfl (c_X12_look (va_up (va_up (va_up (va_up (va_up (va_up (va_up (I 128) 19 v_at) 21 v_ended) 22 v_bad) 23 v_badPlace) 56 v_coded) 58 v_waits) 59 v_open) rfl v_end (by exact e_v_end) v_tape (by exact e_v_tape) v_at rfl hc_91) (by decide) rfl rfl (by first | decide | simp [Value.category]) dX12_part_91 (cs2 := (0, 0)) rfl ?_
  refine zb_S (S2 := ((va_up (va_up (va_up I 128 (va_up (va_up (va_up (va_up (va_up (va_up (va_up (I 128) 19 v_at_c16) 21 v_ended) 22 v_bad) 23 v_badPlace) 56 v_coded) 58 v_waits) 59 v_open)) 173 v_codes) 174 v_wait), J, Rr, D)) (zS_eq ((zcgV (zn7 (by decide : (59 : Nat) ≠ 19) (by decide : (58 : Nat) ≠ 19) (by decide : (56 : Nat) ≠ 19) (by decide : (23 : Nat) ≠ 19) (by decide : (22 : Nat) ≠ 19) (by decide : (21 : Nat) ≠ 19))).trans (zn3 (by decide : (174 : Nat) ≠ 128) (by decide : (173 : Nat) ≠ 128))) rfl) ?_
  refine zb_bipush E dX12_part_94 (v := 40) rfl ?_
  refine zb_icmp_ne E dX12_part_96 (tgt := 106) rfl (fun hc => ?_) (fun hc => ?_)
  · have h := if_f h hc
    refine zb_iconst E dX12_part_106 (v := (-1)) rfl ?_
    exact c_X12_part_b107 N v_end e_v_end v_debtWord e_v_debtWord v_maxWord e_v_maxWord v_minWord e_v_minWord v_paidWord e_v_paidWord v_penceWord e_v_penceWord v_poundsWord e_v_poundsWord v_shillingsWord e_v_shillingsWord v_tape e_v_tape v_termWord e_v_termWord v_yearWord e_v_yearWord y_v_at y_v_bad y_v_badPlace y_v_coded y_v_ended y_v_open y_v_waits y_v_codes y_v_wait E hQ x1 x3 (-1) v_at_c16 v_bad v_badPlace v_coded v_ended v_open v_waits v_codes v_wait self ih k146 hk146 h
  · have h := if_t h hc
    refine zb_aload_n E dX12_part_99 0 rfl rfl ?_
    refine zb_get E 128 (by decide) (zF_128 C.X) rfl zin12 19 (by decide) zw_1187 (v := .int v_at_c16) rfl dX12_part_100 ?_
    refine zb_goto E dX12_part_103 (tgt := 107) rfl ?_
    exact c_X12_part_b107 N v_end e_v_end v_debtWord e_v_debtWord v_maxWord e_v_maxWord v_minWord e_v_minWord v_paidWord e_v_paidWord v_penceWord e_v_penceWord v_poundsWord e_v_poundsWord v_shillingsWord e_v_shillingsWord v_tape e_v_tape v_termWord e_v_termWord v_yearWord e_v_yearWord y_v_at y_v_bad y_v_badPlace y_v_coded y_v_ended y_v_open y_v_waits y_v_codes y_v_wait E hQ x1 x3 v_at_c16 v_at_c16 v_bad v_badPlace v_coded v_ended v_open v_waits v_codes v_wait self ih k146 hk146 h
theorem c_X12_part_b69 {C : zC} {I : Nat → Nat → Int32} {J : Nat → Nat → Int64} {Rr : Nat → Nat → Option Nat} {D : zD} (N : Nat) (v_end : Int32) (e_v_end : I 128 20 = v_end) (v_debtWord : (Nat → Int32)) (e_v_debtWord : I 161 = v_debtWord) (v_maxWord : (Nat → Int32)) (e_v_maxWord : I 164 = v_maxWord) (v_minWord : (Nat → Int32)) (e_v_minWord : I 163 = v_minWord) (v_paidWord : (Nat → Int32)) (e_v_paidWord : I 162 = v_paidWord) (v_penceWord : (Nat → Int32)) (e_v_penceWord : I 156 = v_penceWord) (v_poundsWord : (Nat → Int32)) (e_v_poundsWord : I 158 = v_poundsWord) (v_shillingsWord : (Nat → Int32)) (e_v_shillingsWord : I 157 = v_shillingsWord) (v_tape : (Nat → Int32)) (e_v_tape : I 143 = v_tape) (v_termWord : (Nat → Int32)) (e_v_termWord : I 159 = v_termWord) (v_yearWord : (Nat → Int32)) (e_v_yearWord : I 160 = v_yearWord) (y_v_at : Int32) (y_v_bad : Int32) (y_v_badPlace : Int32) (y_v_coded : Int32) (y_v_ended : Int32) (y_v_open : Int32) (y_v_waits : Int32) (y_v_codes : (Nat → Int32)) (y_v_wait : (Nat → Int32)) (E : zE C RX12 cX12_part 5 none ({ frames := 4, cells := 0, slots := 0, locals := 86 } : Room)) (hQ : C.Q = zQv C ({ frames := 4, cells := 0, slots := 0, locals := 86 } : Room) ((va_up (va_up (va_up I 128 (va_up (va_up (va_up (va_up (va_up (va_up (va_up (I 128) 19 y_v_at) 21 y_v_ended) 22 y_v_bad) 23 y_v_badPlace) 56 y_v_coded) 58 y_v_waits) 59 y_v_open)) 173 y_v_codes) 174 y_v_wait), J, Rr, D)) (x1 : Int32) (v_at : Int32) (v_bad : Int32) (v_badPlace : Int32) (v_coded : Int32) (v_ended : Int32) (v_open : Int32) (v_waits : Int32) (v_codes : (Nat → Int32)) (v_wait : (Nat → Int32)) (self : Int32 → Int32 → Int32 → Int32 → Int32 → Int32 → Int32 → (Nat → Int32) → Option R_pM_part) (ih : ∀ (x1 : Int32) (v_at : Int32) (v_bad : Int32) (v_badPlace : Int32) (v_ended : Int32) (v_open : Int32) (v_waits : Int32) (v_wait : (Nat → Int32)), self x1 v_at v_bad v_badPlace v_ended v_open v_waits v_wait = some (y_v_at, y_v_bad, y_v_badPlace, y_v_coded, y_v_ended, y_v_open, y_v_waits, y_v_codes, y_v_wait) → zB C (0, 0) 2 [(0, .ref (C.X.1 + 128)), (1, .int x1)] [] ((va_up (va_up (va_up I 128 (va_up (va_up (va_up (va_up (va_up (va_up (va_up (I 128) 19 v_at) 21 v_ended) 22 v_bad) 23 v_badPlace) 56 v_coded) 58 v_waits) 59 v_open)) 173 v_codes) 174 v_wait), J, Rr, D)) (k146 : Int32 → Int32 → Int32 → Int32 → Int32 → Int32 → (Nat → Int32) → Option R_pM_part) (hk146 : ∀ (v_at : Int32) (v_bad : Int32) (v_badPlace : Int32) (v_ended : Int32) (v_open : Int32) (v_waits : Int32) (v_wait : (Nat → Int32)), k146 v_at v_bad v_badPlace v_ended v_open v_waits v_wait = some (y_v_at, y_v_bad, y_v_badPlace, y_v_coded, y_v_ended, y_v_open, y_v_waits, y_v_codes, y_v_wait) → zB C (0, 0) 146 [(0, .ref (C.X.1 + 128))] [] ((va_up (va_up (va_up I 128 (va_up (va_up (va_up (va_up (va_up (va_up (va_up (I 128) 19 v_at) 21 v_ended) 22 v_bad) 23 v_badPlace) 56 v_coded) 58 v_waits) 59 v_open)) 173 v_codes) 174 v_wait), J, Rr, D)) (h : pM_part_b69 N v_end v_debtWord v_maxWord v_minWord v_paidWord v_penceWord v_poundsWord v_shillingsWord v_tape v_termWord v_yearWord self k146 x1 v_at v_bad v_badPlace v_coded v_ended v_open v_waits v_codes v_wait = some (y_v_at, y_v_bad, y_v_badPlace, y_v_coded, y_v_ended, y_v_open, y_v_waits, y_v_codes, y_v_wait)) : zB C (0, 0) 69 [(0, .ref (C.X.1 + 128)), (1, .int x1)] [] ((va_up (va_up (va_up I 128 (va_up (va_up (va_up (va_up (va_up (va_up (va_up (I 128) 19 v_at) 21 v_ended) 22 v_bad) 23 v_badPlace) 56 v_coded) 58 v_waits) 59 v_open)) 173 v_codes) 174 v_wait), J, Rr, D) := by
  refine zb_aload_n E dX12_part_69 0 rfl rfl ?_
  refine zb_aload_n E dX12_part_70 0 rfl rfl ?_
  refine zb_get E 128 (by decide) (zF_128 C.X) rfl zin12 45 (by decide) zw_1213 (v := .ref (C.X.1 + 163)) rfl dX12_part_71 ?_
  obtain ⟨rc14, v_at_c14, v_ended_c14, hc_74, h⟩ := bd3_s h
  refine zb_cVi E [.ref (C.X.1 + 163)] 128 zy_X12_takes zw_1581 (by decide) (zF_128 _ _ _ _) rfl (c_X12_takes 163 (by decide) zF_163 (by decide) (va_up (va_up (va_up (va_up (va_up (va_up (va_up (I 128) 19 v_at) 21 v_ended) 22 v_bad) 23 v_badPlace) 56 v_coded) 58 v_waits) 59 v_open) rfl v_minWord (by exact e_v_minWord) v_bad rfl v_end (by exact e_v_end) v_tape (by exact e_v_tape) v_at rfl v_ended rfl hc_74) (by decide) rfl rfl (by first | decide | simp [Value.category]) dX12_part_74 (cs2 := (0, 0)) rfl ?_
  refine zb_S (S2 := ((va_up (va_up (va_up I 128 (va_up (va_up (va_up (va_up (va_up (va_up (va_up (I 128) 19 v_at_c14) 21 v_ended_c14) 22 v_bad) 23 v_badPlace) 56 v_coded) 58 v_waits) 59 v_open)) 173 v_codes) 174 v_wait), J, Rr, D)) (zS_eq ((zcgV ((zcgF (zn7 (by decide : (59 : Nat) ≠ 19) (by decide : (58 : Nat) ≠ 19) (by decide : (56 : Nat) ≠ 19) (by decide : (23 : Nat) ≠ 19) (by decide : (22 : Nat) ≠ 19) (by decide : (21 : Nat) ≠ 19))).trans (zn6 (by decide : (59 : Nat) ≠ 21) (by decide : (58 : Nat) ≠ 21) (by decide : (56 : Nat) ≠ 21) (by decide : (23 : Nat) ≠ 21) (by decide : (22 : Nat) ≠ 21)))).trans (zn3 (by decide : (174 : Nat) ≠ 128) (by decide : (173 : Nat) ≠ 128))) rfl) ?_
  refine zb_istore_n E dX12_part_77 rfl (by decide) (lv2 := [(3, .int rc14), (0, .ref (C.X.1 + 128)), (1, .int x1)]) rfl ?_
  refine zb_iload_n E dX12_part_78 0 rfl rfl ?_
  refine zb_if_ne E dX12_part_79 (tgt := 90) rfl (fun hc => ?_) (fun hc => ?_)
  · have h := if_f h hc
    refine zb_sub [1, 2, 0] rfl ?_
    exact c_X12_part_b90 N v_end e_v_end v_debtWord e_v_debtWord v_maxWord e_v_maxWord v_minWord e_v_minWord v_paidWord e_v_paidWord v_penceWord e_v_penceWord v_poundsWord e_v_poundsWord v_shillingsWord e_v_shillingsWord v_tape e_v_tape v_termWord e_v_termWord v_yearWord e_v_yearWord y_v_at y_v_bad y_v_badPlace y_v_coded y_v_ended y_v_open y_v_waits y_v_codes y_v_wait E hQ x1 rc14 v_at_c14 v_bad v_badPlace v_coded v_ended_c14 v_open v_waits v_codes v_wait self ih k146 hk146 h
  · have h := if_t h hc
    refine zb_aload_n E dX12_part_82 1 rfl rfl ?_
    refine zb_aload_n E dX12_part_83 1 rfl rfl ?_
    refine zb_get E 128 (by decide) (zF_128 C.X) rfl zin12 46 (by decide) zw_1214 (v := .ref (C.X.1 + 164)) rfl dX12_part_84 ?_
    obtain ⟨v_at_c15, v_bad_c15, v_badPlace_c15, v_ended_c15, hc_87, h⟩ := bd4_s h
    refine zb_cVv E [.ref (C.X.1 + 164)] 128 zy_X12_asks zw_1604 (by decide) (zF_128 _ _ _ _) rfl (c_X12_asks 164 (by decide) zF_164 (by decide) (va_up (va_up (va_up (va_up (va_up (va_up (va_up (I 128) 19 v_at_c14) 21 v_ended_c14) 22 v_bad) 23 v_badPlace) 56 v_coded) 58 v_waits) 59 v_open) rfl v_maxWord (by exact e_v_maxWord) v_end (by exact e_v_end) v_tape (by exact e_v_tape) v_at_c14 rfl v_bad rfl v_badPlace rfl v_ended_c14 rfl hc_87) (by decide) rfl rfl (by first | decide | simp [Value.category]) dX12_part_87 (cs2 := (0, 0)) rfl ?_
    refine zb_S (S2 := ((va_up (va_up (va_up I 128 (va_up (va_up (va_up (va_up (va_up (va_up (va_up (I 128) 19 v_at_c15) 21 v_ended_c15) 22 v_bad_c15) 23 v_badPlace_c15) 56 v_coded) 58 v_waits) 59 v_open)) 173 v_codes) 174 v_wait), J, Rr, D)) (zS_eq ((zcgV ((zcgF ((zcgF ((zcgF (zn7 (by decide : (59 : Nat) ≠ 19) (by decide : (58 : Nat) ≠ 19) (by decide : (56 : Nat) ≠ 19) (by decide : (23 : Nat) ≠ 19) (by decide : (22 : Nat) ≠ 19) (by decide : (21 : Nat) ≠ 19))).trans (zn6 (by decide : (59 : Nat) ≠ 21) (by decide : (58 : Nat) ≠ 21) (by decide : (56 : Nat) ≠ 21) (by decide : (23 : Nat) ≠ 21) (by decide : (22 : Nat) ≠ 21)))).trans (zn5 (by decide : (59 : Nat) ≠ 22) (by decide : (58 : Nat) ≠ 22) (by decide : (56 : Nat) ≠ 22) (by decide : (23 : Nat) ≠ 22)))).trans (zn4 (by decide : (59 : Nat) ≠ 23) (by decide : (58 : Nat) ≠ 23) (by decide : (56 : Nat) ≠ 23)))).trans (zn3 (by decide : (174 : Nat) ≠ 128) (by decide : (173 : Nat) ≠ 128))) rfl) ?_
    refine zb_sub [1, 2, 0] rfl ?_
    exact c_X12_part_b90 N v_end e_v_end v_debtWord e_v_debtWord v_maxWord e_v_maxWord v_minWord e_v_minWord v_paidWord e_v_paidWord v_penceWord e_v_penceWord v_poundsWord e_v_poundsWord v_shillingsWord e_v_shillingsWord v_tape e_v_tape v_termWord e_v_termWord v_yearWord e_v_yearWord y_v_at y_v_bad y_v_badPlace y_v_coded y_v_ended y_v_open y_v_waits y_v_codes y_v_wait E hQ x1 rc14 v_at_c15 v_bad_c15 v_badPlace_c15 v_coded v_ended_c15 v_open v_waits v_codes v_wait self ih k146 hk146 h
theorem c_X12_part_b2 {C : zC} {I : Nat → Nat → Int32} {J : Nat → Nat → Int64} {Rr : Nat → Nat → Option Nat} {D : zD} (N : Nat) (v_end : Int32) (e_v_end : I 128 20 = v_end) (v_debtWord : (Nat → Int32)) (e_v_debtWord : I 161 = v_debtWord) (v_maxWord : (Nat → Int32)) (e_v_maxWord : I 164 = v_maxWord) (v_minWord : (Nat → Int32)) (e_v_minWord : I 163 = v_minWord) (v_paidWord : (Nat → Int32)) (e_v_paidWord : I 162 = v_paidWord) (v_penceWord : (Nat → Int32)) (e_v_penceWord : I 156 = v_penceWord) (v_poundsWord : (Nat → Int32)) (e_v_poundsWord : I 158 = v_poundsWord) (v_shillingsWord : (Nat → Int32)) (e_v_shillingsWord : I 157 = v_shillingsWord) (v_tape : (Nat → Int32)) (e_v_tape : I 143 = v_tape) (v_termWord : (Nat → Int32)) (e_v_termWord : I 159 = v_termWord) (v_yearWord : (Nat → Int32)) (e_v_yearWord : I 160 = v_yearWord) (y_v_at : Int32) (y_v_bad : Int32) (y_v_badPlace : Int32) (y_v_coded : Int32) (y_v_ended : Int32) (y_v_open : Int32) (y_v_waits : Int32) (y_v_codes : (Nat → Int32)) (y_v_wait : (Nat → Int32)) (E : zE C RX12 cX12_part 5 none ({ frames := 4, cells := 0, slots := 0, locals := 86 } : Room)) (hQ : C.Q = zQv C ({ frames := 4, cells := 0, slots := 0, locals := 86 } : Room) ((va_up (va_up (va_up I 128 (va_up (va_up (va_up (va_up (va_up (va_up (va_up (I 128) 19 y_v_at) 21 y_v_ended) 22 y_v_bad) 23 y_v_badPlace) 56 y_v_coded) 58 y_v_waits) 59 y_v_open)) 173 y_v_codes) 174 y_v_wait), J, Rr, D)) (v_coded : Int32) (v_codes : (Nat → Int32)) (k146 : Int32 → Int32 → Int32 → Int32 → Int32 → Int32 → (Nat → Int32) → Option R_pM_part) (hk146 : ∀ (v_at : Int32) (v_bad : Int32) (v_badPlace : Int32) (v_ended : Int32) (v_open : Int32) (v_waits : Int32) (v_wait : (Nat → Int32)), k146 v_at v_bad v_badPlace v_ended v_open v_waits v_wait = some (y_v_at, y_v_bad, y_v_badPlace, y_v_coded, y_v_ended, y_v_open, y_v_waits, y_v_codes, y_v_wait) → zB C (0, 0) 146 [(0, .ref (C.X.1 + 128))] [] ((va_up (va_up (va_up I 128 (va_up (va_up (va_up (va_up (va_up (va_up (va_up (I 128) 19 v_at) 21 v_ended) 22 v_bad) 23 v_badPlace) 56 v_coded) 58 v_waits) 59 v_open)) 173 v_codes) 174 v_wait), J, Rr, D)) : ∀ (n9 : Nat) (x1 : Int32) (v_at : Int32) (v_bad : Int32) (v_badPlace : Int32) (v_ended : Int32) (v_open : Int32) (v_waits : Int32) (v_wait : (Nat → Int32)), pM_part_b2 N v_end v_debtWord v_maxWord v_minWord v_paidWord v_penceWord v_poundsWord v_shillingsWord v_tape v_termWord v_yearWord v_coded v_codes k146 n9 x1 v_at v_bad v_badPlace v_ended v_open v_waits v_wait = some (y_v_at, y_v_bad, y_v_badPlace, y_v_coded, y_v_ended, y_v_open, y_v_waits, y_v_codes, y_v_wait) → zB C (0, 0) 2 [(0, .ref (C.X.1 + 128)), (1, .int x1)] [] ((va_up (va_up (va_up I 128 (va_up (va_up (va_up (va_up (va_up (va_up (va_up (I 128) 19 v_at) 21 v_ended) 22 v_bad) 23 v_badPlace) 56 v_coded) 58 v_waits) 59 v_open)) 173 v_codes) 174 v_wait), J, Rr, D) := by
  refine zlp8_ind (P := fun (x1 : Int32) (v_at : Int32) (v_bad : Int32) (v_badPlace : Int32) (v_ended : Int32) (v_open : Int32) (v_waits : Int32) (v_wait : (Nat → Int32)) => zB C (0, 0) 2 [(0, .ref (C.X.1 + 128)), (1, .int x1)] [] ((va_up (va_up (va_up I 128 (va_up (va_up (va_up (va_up (va_up (va_up (va_up (I 128) 19 v_at) 21 v_ended) 22 v_bad) 23 v_badPlace) 56 v_coded) 58 v_waits) 59 v_open)) 173 v_codes) 174 v_wait), J, Rr, D)) (fun self ih => ?_)
  intro x1 v_at v_bad v_badPlace v_ended v_open v_waits v_wait h
  refine zb_iload_n E dX12_part_2 1 rfl rfl ?_
  refine zb_if_eq E dX12_part_3 (tgt := 146) rfl (fun hc => ?_) (fun hc => ?_)
  · have h := if_t h hc
    refine zb_sub [0] rfl ?_
    exact hk146 v_at v_bad v_badPlace v_ended v_open v_waits v_wait h
  · have h := if_f h hc
    refine zb_aload_n E dX12_part_6 0 rfl rfl ?_
    refine zb_get E 128 (by decide) (zF_128 C.X) rfl zin12 22 (by decide) zw_1190 (v := .int v_bad) rfl dX12_part_7 ?_
    refine zb_if_ne E dX12_part_10 (tgt := 146) rfl (fun hc => ?_) (fun hc => ?_)
    · have h := if_f h hc
      refine zb_sub [0] rfl ?_
      exact hk146 v_at v_bad v_badPlace v_ended v_open v_waits v_wait h
    · have h := if_t h hc
      refine zb_aload_n E dX12_part_13 0 rfl rfl ?_
      obtain ⟨rc1, v_at_c1, hc_14, h⟩ := bd2_s h
      refine zb_cVi E [] 128 zy_X12_look zw_1569 (by decide) (zF_128 _ _ _ _) rfl (c_X12_look (va_up (va_up (va_up (va_up (va_up (va_up (va_up (I 128) 19 v_at) 21 v_ended) 22 v_bad) 23 v_badPlace) 56 v_coded) 58 v_waits) 59 v_open) rfl v_end (by exact e_v_end) v_tape (by exact e_v_tape) v_at rfl hc_14) (by decide) rfl rfl (by first | decide | simp [Value.category]) dX12_part_14 (cs2 := (0, 0)) rfl ?_
      refine zb_S (S2 := ((va_up (va_up (va_up I 128 (va_up (va_up (va_up (va_up (va_up (va_up (va_up (I 128) 19 v_at_c1) 21 v_ended) 22 v_bad) 23 v_badPlace) 56 v_coded) 58 v_waits) 59 v_open)) 173 v_codes) 174 v_wait), J, Rr, D)) (zS_eq ((zcgV (zn7 (by decide : (59 : Nat) ≠ 19) (by decide : (58 : Nat) ≠ 19) (by decide : (56 : Nat) ≠ 19) (by decide : (23 : Nat) ≠ 19) (by decide : (22 : Nat) ≠ 19) (by decide : (21 : Nat) ≠ 19))).trans (zn3 (by decide : (174 : Nat) ≠ 128) (by decide : (173 : Nat) ≠ 128))) rfl) ?_
      refine zb_istore_n E dX12_part_17 rfl (by decide) (lv2 := [(2, .int rc1), (0, .ref (C.X.1 + 128)), (1, .int x1)]) rfl ?_
      refine zb_iload_n E dX12_part_18 0 rfl rfl ?_
      refine zb_bipush E dX12_part_19 (v := 40) rfl ?_
      refine zb_icmp_ne E dX12_part_21 (tgt := 47) rfl (fun hc => ?_) (fun hc => ?_)
      · have h := if_f h hc
        refine zb_aload_n E dX12_part_47 1 rfl rfl ?_
        refine zb_aload_n E dX12_part_48 1 rfl rfl ?_
        refine zb_get E 128 (by decide) (zF_128 C.X) rfl zin12 45 (by decide) zw_1213 (v := .ref (C.X.1 + 163)) rfl dX12_part_49 ?_
        obtain ⟨rc2, v_at_c2, hc_52, h⟩ := bd2_s h
        refine zb_cVi E [.ref (C.X.1 + 163)] 128 zy_X12_isHere zw_1585 (by decide) (zF_128 _ _ _ _) rfl (c_X12_isHere 163 (by decide) zF_163 (by decide) (va_up (va_up (va_up (va_up (va_up (va_up (va_up (I 128) 19 v_at_c1) 21 v_ended) 22 v_bad) 23 v_badPlace) 56 v_coded) 58 v_waits) 59 v_open) rfl v_minWord (by exact e_v_minWord) v_bad rfl v_end (by exact e_v_end) v_ended rfl v_tape (by exact e_v_tape) v_at_c1 rfl hc_52) (by decide) rfl rfl (by first | decide | simp [Value.category]) dX12_part_52 (cs2 := (0, 0)) rfl ?_
        refine zb_S (S2 := ((va_up (va_up (va_up I 128 (va_up (va_up (va_up (va_up (va_up (va_up (va_up (I 128) 19 v_at_c2) 21 v_ended) 22 v_bad) 23 v_badPlace) 56 v_coded) 58 v_waits) 59 v_open)) 173 v_codes) 174 v_wait), J, Rr, D)) (zS_eq ((zcgV (zn7 (by decide : (59 : Nat) ≠ 19) (by decide : (58 : Nat) ≠ 19) (by decide : (56 : Nat) ≠ 19) (by decide : (23 : Nat) ≠ 19) (by decide : (22 : Nat) ≠ 19) (by decide : (21 : Nat) ≠ 19))).trans (zn3 (by decide : (174 : Nat) ≠ 128) (by decide : (173 : Nat) ≠ 128))) rfl) ?_
        refine zb_if_ne E dX12_part_55 (tgt := 69) rfl (fun hc => ?_) (fun hc => ?_)
        · have h := if_f h hc
          refine zb_sub [1, 2] rfl ?_
          exact c_X12_part_b69 N v_end e_v_end v_debtWord e_v_debtWord v_maxWord e_v_maxWord v_minWord e_v_minWord v_paidWord e_v_paidWord v_penceWord e_v_penceWord v_poundsWord e_v_poundsWord v_shillingsWord e_v_shillingsWord v_tape e_v_tape v_termWord e_v_termWord v_yearWord e_v_yearWord y_v_at y_v_bad y_v_badPlace y_v_coded y_v_ended y_v_open y_v_waits y_v_codes y_v_wait E hQ x1 v_at_c2 v_bad v_badPlace v_coded v_ended v_open v_waits v_codes v_wait self ih k146 hk146 h
        · have h := if_t h hc
          refine zb_aload_n E dX12_part_58 1 rfl rfl ?_
          refine zb_aload_n E dX12_part_59 1 rfl rfl ?_
          refine zb_get E 128 (by decide) (zF_128 C.X) rfl zin12 46 (by decide) zw_1214 (v := .ref (C.X.1 + 164)) rfl dX12_part_60 ?_
          obtain ⟨rc3, v_at_c3, hc_63, h⟩ := bd2_s h
          refine zb_cVi E [.ref (C.X.1 + 164)] 128 zy_X12_isHere zw_1585 (by decide) (zF_128 _ _ _ _) rfl (c_X12_isHere 164 (by decide) zF_164 (by decide) (va_up (va_up (va_up (va_up (va_up (va_up (va_up (I 128) 19 v_at_c2) 21 v_ended) 22 v_bad) 23 v_badPlace) 56 v_coded) 58 v_waits) 59 v_open) rfl v_maxWord (by exact e_v_maxWord) v_bad rfl v_end (by exact e_v_end) v_ended rfl v_tape (by exact e_v_tape) v_at_c2 rfl hc_63) (by decide) rfl rfl (by first | decide | simp [Value.category]) dX12_part_63 (cs2 := (0, 0)) rfl ?_
          refine zb_S (S2 := ((va_up (va_up (va_up I 128 (va_up (va_up (va_up (va_up (va_up (va_up (va_up (I 128) 19 v_at_c3) 21 v_ended) 22 v_bad) 23 v_badPlace) 56 v_coded) 58 v_waits) 59 v_open)) 173 v_codes) 174 v_wait), J, Rr, D)) (zS_eq ((zcgV (zn7 (by decide : (59 : Nat) ≠ 19) (by decide : (58 : Nat) ≠ 19) (by decide : (56 : Nat) ≠ 19) (by decide : (23 : Nat) ≠ 19) (by decide : (22 : Nat) ≠ 19) (by decide : (21 : Nat) ≠ 19))).trans (zn3 (by decide : (174 : Nat) ≠ 128) (by decide : (173 : Nat) ≠ 128))) rfl) ?_
          refine zb_if_eq E dX12_part_66 (tgt := 141) rfl (fun hc => ?_) (fun hc => ?_)
          · have h := if_t h hc
            refine zb_iconst E dX12_part_141 (v := 0) rfl ?_
            refine zb_istore_n E dX12_part_142 rfl (by decide) (lv2 := [(1, .int 0), (2, .int rc1), (0, .ref (C.X.1 + 128))]) rfl ?_
            refine zb_goto E dX12_part_143 (tgt := 2) rfl ?_
            refine zb_sub [2, 0] rfl ?_
            exact ih 0 v_at_c3 v_bad v_badPlace v_ended v_open v_waits v_wait h
          · have h := if_f h hc
            refine zb_sub [1, 2] rfl ?_
            exact c_X12_part_b69 N v_end e_v_end v_debtWord e_v_debtWord v_maxWord e_v_maxWord v_minWord e_v_minWord v_paidWord e_v_paidWord v_penceWord e_v_penceWord v_poundsWord e_v_poundsWord v_shillingsWord e_v_shillingsWord v_tape e_v_tape v_termWord e_v_termWord v_yearWord e_v_yearWord y_v_at y_v_bad y_v_badPlace y_v_coded y_v_ended y_v_open y_v_waits y_v_codes y_v_wait E hQ x1 v_at_c3 v_bad v_badPlace v_coded v_ended v_open v_waits v_codes v_wait self ih k146 hk146 h
      · have h := if_t h hc
        refine zb_aload_n E dX12_part_24 1 rfl rfl ?_
        refine zb_bipush E dX12_part_25 (v := 20) rfl ?_
        refine zb_aload_n E dX12_part_27 1 rfl rfl ?_
        refine zb_get E 128 (by decide) (zF_128 C.X) rfl zin12 19 (by decide) zw_1187 (v := .int v_at_c1) rfl dX12_part_28 ?_
        obtain ⟨v_bad_c4, v_badPlace_c4, v_open_c4, v_waits_c4, v_wait_c4, hc_31, h⟩ := bd5_s h
        refine zb_cVv E [.int 20, .int v_at_c1] 128 zy_X12_opens zw_1600 (by decide) (zF_128 _ _ _ _) rfl (c_X12_opens (va_up (va_up (va_up (va_up (va_up (va_up (va_up (I 128) 19 v_at_c1) 21 v_ended) 22 v_bad) 23 v_badPlace) 56 v_coded) 58 v_waits) 59 v_open) rfl v_bad rfl v_badPlace rfl v_open rfl v_waits rfl v_wait rfl hc_31) (by decide) rfl rfl (by first | decide | simp [Value.category]) dX12_part_31 (cs2 := (0, 0)) rfl ?_
        refine zb_S (S2 := ((va_up (va_up (va_up I 128 (va_up (va_up (va_up (va_up (va_up (va_up (va_up (I 128) 19 v_at_c1) 21 v_ended) 22 v_bad_c4) 23 v_badPlace_c4) 56 v_coded) 58 v_waits_c4) 59 v_open_c4)) 173 v_codes) 174 v_wait_c4), J, Rr, D)) (zS_eq ((zcgF ((zcgV ((zcgF ((zcgF ((zcgF (zn5 (by decide : (59 : Nat) ≠ 22) (by decide : (58 : Nat) ≠ 22) (by decide : (56 : Nat) ≠ 22) (by decide : (23 : Nat) ≠ 22))).trans (zn4 (by decide : (59 : Nat) ≠ 23) (by decide : (58 : Nat) ≠ 23) (by decide : (56 : Nat) ≠ 23)))).trans (zn2 (by decide : (59 : Nat) ≠ 58)))).trans zn1)).trans (zn3 (by decide : (174 : Nat) ≠ 128) (by decide : (173 : Nat) ≠ 128)))).trans zn1) rfl) ?_
        refine zb_aload_n E dX12_part_34 1 rfl rfl ?_
        refine zb_dup E dX12_part_35 rfl ?_
        refine zb_get E 128 (by decide) (zF_128 C.X) rfl zin12 19 (by decide) zw_1187 (v := .int v_at_c1) rfl dX12_part_36 ?_
        refine zb_iconst E dX12_part_39 (v := 1) rfl ?_
        refine zb_iadd E dX12_part_40 ?_
        refine zb_put E 128 (by decide) (zF_128 C.X) rfl zin12 19 (by decide) zw_1187 tyX12 tyX12_ok nmX12 rfl rfl rfl (I2 := (va_up (va_up (va_up I 128 (va_up (va_up (va_up (va_up (va_up (va_up (va_up (I 128) 19 (v_at_c1 + 1)) 21 v_ended) 22 v_bad_c4) 23 v_badPlace_c4) 56 v_coded) 58 v_waits_c4) 59 v_open_c4)) 173 v_codes) 174 v_wait_c4)) (J2 := J) ((zset12_19 C.X (va_up (va_up (va_up (va_up (va_up (va_up (va_up (I 128) 19 v_at_c1) 21 v_ended) 22 v_bad_c4) 23 v_badPlace_c4) 56 v_coded) 58 v_waits_c4) 59 v_open_c4) (J 128) (v_at_c1 + 1)).trans (congrArg (fun g => zf12 C.X g (J 128)) (zn7 (by decide : (59 : Nat) ≠ 19) (by decide : (58 : Nat) ≠ 19) (by decide : (56 : Nat) ≠ 19) (by decide : (23 : Nat) ≠ 19) (by decide : (22 : Nat) ≠ 19) (by decide : (21 : Nat) ≠ 19)))) (by rw [zflen12]; decide) (fun j hj => ⟨zup_cg (zup_cg ((zup_n hj).trans (zup_n hj).symm)), rfl⟩) dX12_part_41 ?_
        refine zb_goto E dX12_part_44 (tgt := 143) rfl ?_
        refine zb_goto E dX12_part_143 (tgt := 2) rfl ?_
        refine zb_sub [1, 2] rfl ?_
        exact ih x1 (v_at_c1 + 1) v_bad_c4 v_badPlace_c4 v_ended v_open_c4 v_waits_c4 v_wait_c4 h
theorem c_X12_part_b146 {C : zC} {I : Nat → Nat → Int32} {J : Nat → Nat → Int64} {Rr : Nat → Nat → Option Nat} {D : zD} (N : Nat) (v_end : Int32) (e_v_end : I 128 20 = v_end) (v_debtWord : (Nat → Int32)) (e_v_debtWord : I 161 = v_debtWord) (v_maxWord : (Nat → Int32)) (e_v_maxWord : I 164 = v_maxWord) (v_minWord : (Nat → Int32)) (e_v_minWord : I 163 = v_minWord) (v_paidWord : (Nat → Int32)) (e_v_paidWord : I 162 = v_paidWord) (v_penceWord : (Nat → Int32)) (e_v_penceWord : I 156 = v_penceWord) (v_poundsWord : (Nat → Int32)) (e_v_poundsWord : I 158 = v_poundsWord) (v_shillingsWord : (Nat → Int32)) (e_v_shillingsWord : I 157 = v_shillingsWord) (v_tape : (Nat → Int32)) (e_v_tape : I 143 = v_tape) (v_termWord : (Nat → Int32)) (e_v_termWord : I 159 = v_termWord) (v_yearWord : (Nat → Int32)) (e_v_yearWord : I 160 = v_yearWord) (y_v_at : Int32) (y_v_bad : Int32) (y_v_badPlace : Int32) (y_v_coded : Int32) (y_v_ended : Int32) (y_v_open : Int32) (y_v_waits : Int32) (y_v_codes : (Nat → Int32)) (y_v_wait : (Nat → Int32)) (E : zE C RX12 cX12_part 5 none ({ frames := 4, cells := 0, slots := 0, locals := 86 } : Room)) (hQ : C.Q = zQv C ({ frames := 4, cells := 0, slots := 0, locals := 86 } : Room) ((va_up (va_up (va_up I 128 (va_up (va_up (va_up (va_up (va_up (va_up (va_up (I 128) 19 y_v_at) 21 y_v_ended) 22 y_v_bad) 23 y_v_badPlace) 56 y_v_coded) 58 y_v_waits) 59 y_v_open)) 173 y_v_codes) 174 y_v_wait), J, Rr, D)) (v_at : Int32) (v_bad : Int32) (v_badPlace : Int32) (v_coded : Int32) (v_ended : Int32) (v_open : Int32) (v_waits : Int32) (v_codes : (Nat → Int32)) (v_wait : (Nat → Int32)) (h : pM_part_b146 N v_end v_debtWord v_maxWord v_minWord v_paidWord v_penceWord v_poundsWord v_shillingsWord v_tape v_termWord v_yearWord v_at v_bad v_badPlace v_coded v_ended v_open v_waits v_codes v_wait = some (y_v_at, y_v_bad, y_v_badPlace, y_v_coded, y_v_ended, y_v_open, y_v_waits, y_v_codes, y_v_wait)) : zB C (0, 0) 146 [(0, .ref (C.X.1 + 128))] [] ((va_up (va_up (va_up I 128 (va_up (va_up (va_up (va_up (va_up (va_up (va_up (I 128) 19 v_at) 21 v_ended) 22 v_bad) 23 v_badPlace) 56 v_coded) 58 v_waits) 59 v_open)) 173 v_codes) 174 v_wait), J, Rr, D) := by
  refine zb_aload_n E dX12_part_146 0 rfl rfl ?_
  refine zb_get E 128 (by decide) (zF_128 C.X) rfl zin12 22 (by decide) zw_1190 (v := .int v_bad) rfl dX12_part_147 ?_
  refine zb_if_eq E dX12_part_150 (tgt := 154) rfl (fun hc => ?_) (fun hc => ?_)
  · have h := if_t h hc
    refine zb_aload_n E dX12_part_154 0 rfl rfl ?_
    refine zb_aload_n E dX12_part_155 0 rfl rfl ?_
    refine zb_get E 128 (by decide) (zF_128 C.X) rfl zin12 41 (by decide) zw_1209 (v := .ref (C.X.1 + 159)) rfl dX12_part_156 ?_
    obtain ⟨rc5, v_at_c5, v_ended_c5, hc_159, h⟩ := bd3_s h
    refine zb_cVi E [.ref (C.X.1 + 159)] 128 zy_X12_takes zw_1581 (by decide) (zF_128 _ _ _ _) rfl (c_X12_takes 159 (by decide) zF_159 (by decide) (va_up (va_up (va_up (va_up (va_up (va_up (va_up (I 128) 19 v_at) 21 v_ended) 22 v_bad) 23 v_badPlace) 56 v_coded) 58 v_waits) 59 v_open) rfl v_termWord (by exact e_v_termWord) v_bad rfl v_end (by exact e_v_end) v_tape (by exact e_v_tape) v_at rfl v_ended rfl hc_159) (by decide) rfl rfl (by first | decide | simp [Value.category]) dX12_part_159 (cs2 := (0, 0)) rfl ?_
    refine zb_S (S2 := ((va_up (va_up (va_up I 128 (va_up (va_up (va_up (va_up (va_up (va_up (va_up (I 128) 19 v_at_c5) 21 v_ended_c5) 22 v_bad) 23 v_badPlace) 56 v_coded) 58 v_waits) 59 v_open)) 173 v_codes) 174 v_wait), J, Rr, D)) (zS_eq ((zcgV ((zcgF (zn7 (by decide : (59 : Nat) ≠ 19) (by decide : (58 : Nat) ≠ 19) (by decide : (56 : Nat) ≠ 19) (by decide : (23 : Nat) ≠ 19) (by decide : (22 : Nat) ≠ 19) (by decide : (21 : Nat) ≠ 19))).trans (zn6 (by decide : (59 : Nat) ≠ 21) (by decide : (58 : Nat) ≠ 21) (by decide : (56 : Nat) ≠ 21) (by decide : (23 : Nat) ≠ 21) (by decide : (22 : Nat) ≠ 21)))).trans (zn3 (by decide : (174 : Nat) ≠ 128) (by decide : (173 : Nat) ≠ 128))) rfl) ?_
    refine zb_if_eq E dX12_part_162 (tgt := 174) rfl (fun hc => ?_) (fun hc => ?_)
    · have h := if_t h hc
      refine zb_aload_n E dX12_part_174 0 rfl rfl ?_
      refine zb_aload_n E dX12_part_175 0 rfl rfl ?_
      refine zb_get E 128 (by decide) (zF_128 C.X) rfl zin12 42 (by decide) zw_1210 (v := .ref (C.X.1 + 160)) rfl dX12_part_176 ?_
      obtain ⟨rc6, v_at_c6, v_ended_c6, hc_179, h⟩ := bd3_s h
      refine zb_cVi E [.ref (C.X.1 + 160)] 128 zy_X12_takes zw_1581 (by decide) (zF_128 _ _ _ _) rfl (c_X12_takes 160 (by decide) zF_160 (by decide) (va_up (va_up (va_up (va_up (va_up (va_up (va_up (I 128) 19 v_at_c5) 21 v_ended_c5) 22 v_bad) 23 v_badPlace) 56 v_coded) 58 v_waits) 59 v_open) rfl v_yearWord (by exact e_v_yearWord) v_bad rfl v_end (by exact e_v_end) v_tape (by exact e_v_tape) v_at_c5 rfl v_ended_c5 rfl hc_179) (by decide) rfl rfl (by first | decide | simp [Value.category]) dX12_part_179 (cs2 := (0, 0)) rfl ?_
      refine zb_S (S2 := ((va_up (va_up (va_up I 128 (va_up (va_up (va_up (va_up (va_up (va_up (va_up (I 128) 19 v_at_c6) 21 v_ended_c6) 22 v_bad) 23 v_badPlace) 56 v_coded) 58 v_waits) 59 v_open)) 173 v_codes) 174 v_wait), J, Rr, D)) (zS_eq ((zcgV ((zcgF (zn7 (by decide : (59 : Nat) ≠ 19) (by decide : (58 : Nat) ≠ 19) (by decide : (56 : Nat) ≠ 19) (by decide : (23 : Nat) ≠ 19) (by decide : (22 : Nat) ≠ 19) (by decide : (21 : Nat) ≠ 19))).trans (zn6 (by decide : (59 : Nat) ≠ 21) (by decide : (58 : Nat) ≠ 21) (by decide : (56 : Nat) ≠ 21) (by decide : (23 : Nat) ≠ 21) (by decide : (22 : Nat) ≠ 21)))).trans (zn3 (by decide : (174 : Nat) ≠ 128) (by decide : (173 : Nat) ≠ 128))) rfl) ?_
      refine zb_if_eq E dX12_part_182 (tgt := 194) rfl (fun hc => ?_) (fun hc => ?_)
      · have h := if_t h hc
        refine zb_aload_n E dX12_part_194 0 rfl rfl ?_
        refine zb_aload_n E dX12_part_195 0 rfl rfl ?_
        refine zb_get E 128 (by decide) (zF_128 C.X) rfl zin12 43 (by decide) zw_1211 (v := .ref (C.X.1 + 161)) rfl dX12_part_196 ?_
        obtain ⟨rc7, v_at_c7, v_ended_c7, hc_199, h⟩ := bd3_s h
        refine zb_cVi E [.ref (C.X.1 + 161)] 128 zy_X12_takes zw_1581 (by decide) (zF_128 _ _ _ _) rfl (c_X12_takes 161 (by decide) zF_161 (by decide) (va_up (va_up (va_up (va_up (va_up (va_up (va_up (I 128) 19 v_at_c6) 21 v_ended_c6) 22 v_bad) 23 v_badPlace) 56 v_coded) 58 v_waits) 59 v_open) rfl v_debtWord (by exact e_v_debtWord) v_bad rfl v_end (by exact e_v_end) v_tape (by exact e_v_tape) v_at_c6 rfl v_ended_c6 rfl hc_199) (by decide) rfl rfl (by first | decide | simp [Value.category]) dX12_part_199 (cs2 := (0, 0)) rfl ?_
        refine zb_S (S2 := ((va_up (va_up (va_up I 128 (va_up (va_up (va_up (va_up (va_up (va_up (va_up (I 128) 19 v_at_c7) 21 v_ended_c7) 22 v_bad) 23 v_badPlace) 56 v_coded) 58 v_waits) 59 v_open)) 173 v_codes) 174 v_wait), J, Rr, D)) (zS_eq ((zcgV ((zcgF (zn7 (by decide : (59 : Nat) ≠ 19) (by decide : (58 : Nat) ≠ 19) (by decide : (56 : Nat) ≠ 19) (by decide : (23 : Nat) ≠ 19) (by decide : (22 : Nat) ≠ 19) (by decide : (21 : Nat) ≠ 19))).trans (zn6 (by decide : (59 : Nat) ≠ 21) (by decide : (58 : Nat) ≠ 21) (by decide : (56 : Nat) ≠ 21) (by decide : (23 : Nat) ≠ 21) (by decide : (22 : Nat) ≠ 21)))).trans (zn3 (by decide : (174 : Nat) ≠ 128) (by decide : (173 : Nat) ≠ 128))) rfl) ?_
        refine zb_if_eq E dX12_part_202 (tgt := 214) rfl (fun hc => ?_) (fun hc => ?_)
        · have h := if_t h hc
          refine zb_aload_n E dX12_part_214 0 rfl rfl ?_
          refine zb_aload_n E dX12_part_215 0 rfl rfl ?_
          refine zb_get E 128 (by decide) (zF_128 C.X) rfl zin12 44 (by decide) zw_1212 (v := .ref (C.X.1 + 162)) rfl dX12_part_216 ?_
          obtain ⟨rc8, v_at_c8, v_ended_c8, hc_219, h⟩ := bd3_s h
          refine zb_cVi E [.ref (C.X.1 + 162)] 128 zy_X12_takes zw_1581 (by decide) (zF_128 _ _ _ _) rfl (c_X12_takes 162 (by decide) zF_162 (by decide) (va_up (va_up (va_up (va_up (va_up (va_up (va_up (I 128) 19 v_at_c7) 21 v_ended_c7) 22 v_bad) 23 v_badPlace) 56 v_coded) 58 v_waits) 59 v_open) rfl v_paidWord (by exact e_v_paidWord) v_bad rfl v_end (by exact e_v_end) v_tape (by exact e_v_tape) v_at_c7 rfl v_ended_c7 rfl hc_219) (by decide) rfl rfl (by first | decide | simp [Value.category]) dX12_part_219 (cs2 := (0, 0)) rfl ?_
          refine zb_S (S2 := ((va_up (va_up (va_up I 128 (va_up (va_up (va_up (va_up (va_up (va_up (va_up (I 128) 19 v_at_c8) 21 v_ended_c8) 22 v_bad) 23 v_badPlace) 56 v_coded) 58 v_waits) 59 v_open)) 173 v_codes) 174 v_wait), J, Rr, D)) (zS_eq ((zcgV ((zcgF (zn7 (by decide : (59 : Nat) ≠ 19) (by decide : (58 : Nat) ≠ 19) (by decide : (56 : Nat) ≠ 19) (by decide : (23 : Nat) ≠ 19) (by decide : (22 : Nat) ≠ 19) (by decide : (21 : Nat) ≠ 19))).trans (zn6 (by decide : (59 : Nat) ≠ 21) (by decide : (58 : Nat) ≠ 21) (by decide : (56 : Nat) ≠ 21) (by decide : (23 : Nat) ≠ 21) (by decide : (22 : Nat) ≠ 21)))).trans (zn3 (by decide : (174 : Nat) ≠ 128) (by decide : (173 : Nat) ≠ 128))) rfl) ?_
          refine zb_if_eq E dX12_part_222 (tgt := 234) rfl (fun hc => ?_) (fun hc => ?_)
          · have h := if_t h hc
            refine zb_aload_n E dX12_part_234 0 rfl rfl ?_
            obtain ⟨v_at_c9, v_bad_c9, v_badPlace_c9, v_coded_c9, v_ended_c9, v_codes_c9, hc_235, h⟩ := bd6_s h
            refine zb_cVv E [] 128 zy_X12_numberPart zw_1620 (by decide) (zF_128 _ _ _ _) rfl (c_X12_numberPart (va_up (va_up (va_up (va_up (va_up (va_up (va_up (I 128) 19 v_at_c8) 21 v_ended_c8) 22 v_bad) 23 v_badPlace) 56 v_coded) 58 v_waits) 59 v_open) rfl v_end (by exact e_v_end) v_penceWord (by exact e_v_penceWord) v_poundsWord (by exact e_v_poundsWord) v_shillingsWord (by exact e_v_shillingsWord) v_tape (by exact e_v_tape) v_at_c8 rfl v_bad rfl v_badPlace rfl v_coded rfl v_ended_c8 rfl v_codes rfl hc_235) (by decide) rfl rfl (by first | decide | simp [Value.category]) dX12_part_235 (cs2 := (0, 0)) rfl ?_
            refine zb_S (S2 := ((va_up (va_up (va_up I 128 (va_up (va_up (va_up (va_up (va_up (va_up (va_up (I 128) 19 v_at_c9) 21 v_ended_c9) 22 v_bad_c9) 23 v_badPlace_c9) 56 v_coded_c9) 58 v_waits) 59 v_open)) 173 v_codes_c9) 174 v_wait), J, Rr, D)) (zS_eq ((zcgF ((zcgV ((zcgF ((zcgF ((zcgF ((zcgF (zn7 (by decide : (59 : Nat) ≠ 19) (by decide : (58 : Nat) ≠ 19) (by decide : (56 : Nat) ≠ 19) (by decide : (23 : Nat) ≠ 19) (by decide : (22 : Nat) ≠ 19) (by decide : (21 : Nat) ≠ 19))).trans (zn6 (by decide : (59 : Nat) ≠ 21) (by decide : (58 : Nat) ≠ 21) (by decide : (56 : Nat) ≠ 21) (by decide : (23 : Nat) ≠ 21) (by decide : (22 : Nat) ≠ 21)))).trans (zn5 (by decide : (59 : Nat) ≠ 22) (by decide : (58 : Nat) ≠ 22) (by decide : (56 : Nat) ≠ 22) (by decide : (23 : Nat) ≠ 22)))).trans (zn4 (by decide : (59 : Nat) ≠ 23) (by decide : (58 : Nat) ≠ 23) (by decide : (56 : Nat) ≠ 23)))).trans (zn3 (by decide : (59 : Nat) ≠ 56) (by decide : (58 : Nat) ≠ 56)))).trans (zn3 (by decide : (174 : Nat) ≠ 128) (by decide : (173 : Nat) ≠ 128)))).trans (zn2 (by decide : (174 : Nat) ≠ 173))) rfl) ?_
            obtain ⟨rfl, rfl, rfl, rfl, rfl, rfl, rfl, rfl, rfl⟩ := zinj9 h
            exact zb_vret E hQ rfl ⟨Nat.zero_le _, Nat.zero_le _⟩ dX12_part_238
          · have h := if_f h hc
            refine zb_aload_n E dX12_part_225 0 rfl rfl ?_
            refine zb_bipush E dX12_part_226 (v := 10) rfl ?_
            obtain ⟨v_coded_c10, v_codes_c10, hc_228, h⟩ := bd2_s h
            refine zb_cVv E [.int 10] 128 zy_X12_code zw_1616 (by decide) (zF_128 _ _ _ _) rfl (c_X12_code (va_up (va_up (va_up (va_up (va_up (va_up (va_up (I 128) 19 v_at_c8) 21 v_ended_c8) 22 v_bad) 23 v_badPlace) 56 v_coded) 58 v_waits) 59 v_open) rfl v_coded rfl v_codes rfl hc_228) (by decide) rfl rfl (by first | decide | simp [Value.category]) dX12_part_228 (cs2 := (0, 0)) rfl ?_
            refine zb_S (S2 := ((va_up (va_up (va_up I 128 (va_up (va_up (va_up (va_up (va_up (va_up (va_up (I 128) 19 v_at_c8) 21 v_ended_c8) 22 v_bad) 23 v_badPlace) 56 v_coded_c10) 58 v_waits) 59 v_open)) 173 v_codes_c10) 174 v_wait), J, Rr, D)) (zS_eq ((zcgF ((zcgV (zn3 (by decide : (59 : Nat) ≠ 56) (by decide : (58 : Nat) ≠ 56))).trans (zn3 (by decide : (174 : Nat) ≠ 128) (by decide : (173 : Nat) ≠ 128)))).trans (zn2 (by decide : (174 : Nat) ≠ 173))) rfl) ?_
            refine zb_goto E dX12_part_231 (tgt := 238) rfl ?_
            obtain ⟨rfl, rfl, rfl, rfl, rfl, rfl, rfl, rfl, rfl⟩ := zinj9 h
            exact zb_vret E hQ rfl ⟨Nat.zero_le _, Nat.zero_le _⟩ dX12_part_238
        · have h := if_f h hc
          refine zb_aload_n E dX12_part_205 0 rfl rfl ?_
          refine zb_bipush E dX12_part_206 (v := 9) rfl ?_
          obtain ⟨v_coded_c11, v_codes_c11, hc_208, h⟩ := bd2_s h
          refine zb_cVv E [.int 9] 128 zy_X12_code zw_1616 (by decide) (zF_128 _ _ _ _) rfl (c_X12_code (va_up (va_up (va_up (va_up (va_up (va_up (va_up (I 128) 19 v_at_c7) 21 v_ended_c7) 22 v_bad) 23 v_badPlace) 56 v_coded) 58 v_waits) 59 v_open) rfl v_coded rfl v_codes rfl hc_208) (by decide) rfl rfl (by first | decide | simp [Value.category]) dX12_part_208 (cs2 := (0, 0)) rfl ?_
          refine zb_S (S2 := ((va_up (va_up (va_up I 128 (va_up (va_up (va_up (va_up (va_up (va_up (va_up (I 128) 19 v_at_c7) 21 v_ended_c7) 22 v_bad) 23 v_badPlace) 56 v_coded_c11) 58 v_waits) 59 v_open)) 173 v_codes_c11) 174 v_wait), J, Rr, D)) (zS_eq ((zcgF ((zcgV (zn3 (by decide : (59 : Nat) ≠ 56) (by decide : (58 : Nat) ≠ 56))).trans (zn3 (by decide : (174 : Nat) ≠ 128) (by decide : (173 : Nat) ≠ 128)))).trans (zn2 (by decide : (174 : Nat) ≠ 173))) rfl) ?_
          refine zb_goto E dX12_part_211 (tgt := 238) rfl ?_
          obtain ⟨rfl, rfl, rfl, rfl, rfl, rfl, rfl, rfl, rfl⟩ := zinj9 h
          exact zb_vret E hQ rfl ⟨Nat.zero_le _, Nat.zero_le _⟩ dX12_part_238
      · have h := if_f h hc
        refine zb_aload_n E dX12_part_185 0 rfl rfl ?_
        refine zb_bipush E dX12_part_186 (v := 8) rfl ?_
        obtain ⟨v_coded_c12, v_codes_c12, hc_188, h⟩ := bd2_s h
        refine zb_cVv E [.int 8] 128 zy_X12_code zw_1616 (by decide) (zF_128 _ _ _ _) rfl (c_X12_code (va_up (va_up (va_up (va_up (va_up (va_up (va_up (I 128) 19 v_at_c6) 21 v_ended_c6) 22 v_bad) 23 v_badPlace) 56 v_coded) 58 v_waits) 59 v_open) rfl v_coded rfl v_codes rfl hc_188) (by decide) rfl rfl (by first | decide | simp [Value.category]) dX12_part_188 (cs2 := (0, 0)) rfl ?_
        refine zb_S (S2 := ((va_up (va_up (va_up I 128 (va_up (va_up (va_up (va_up (va_up (va_up (va_up (I 128) 19 v_at_c6) 21 v_ended_c6) 22 v_bad) 23 v_badPlace) 56 v_coded_c12) 58 v_waits) 59 v_open)) 173 v_codes_c12) 174 v_wait), J, Rr, D)) (zS_eq ((zcgF ((zcgV (zn3 (by decide : (59 : Nat) ≠ 56) (by decide : (58 : Nat) ≠ 56))).trans (zn3 (by decide : (174 : Nat) ≠ 128) (by decide : (173 : Nat) ≠ 128)))).trans (zn2 (by decide : (174 : Nat) ≠ 173))) rfl) ?_
        refine zb_goto E dX12_part_191 (tgt := 238) rfl ?_
        obtain ⟨rfl, rfl, rfl, rfl, rfl, rfl, rfl, rfl, rfl⟩ := zinj9 h
        exact zb_vret E hQ rfl ⟨Nat.zero_le _, Nat.zero_le _⟩ dX12_part_238
    · have h := if_f h hc
      refine zb_aload_n E dX12_part_165 0 rfl rfl ?_
      refine zb_bipush E dX12_part_166 (v := 7) rfl ?_
      obtain ⟨v_coded_c13, v_codes_c13, hc_168, h⟩ := bd2_s h
      refine zb_cVv E [.int 7] 128 zy_X12_code zw_1616 (by decide) (zF_128 _ _ _ _) rfl (c_X12_code (va_up (va_up (va_up (va_up (va_up (va_up (va_up (I 128) 19 v_at_c5) 21 v_ended_c5) 22 v_bad) 23 v_badPlace) 56 v_coded) 58 v_waits) 59 v_open) rfl v_coded rfl v_codes rfl hc_168) (by decide) rfl rfl (by first | decide | simp [Value.category]) dX12_part_168 (cs2 := (0, 0)) rfl ?_
      refine zb_S (S2 := ((va_up (va_up (va_up I 128 (va_up (va_up (va_up (va_up (va_up (va_up (va_up (I 128) 19 v_at_c5) 21 v_ended_c5) 22 v_bad) 23 v_badPlace) 56 v_coded_c13) 58 v_waits) 59 v_open)) 173 v_codes_c13) 174 v_wait), J, Rr, D)) (zS_eq ((zcgF ((zcgV (zn3 (by decide : (59 : Nat) ≠ 56) (by decide : (58 : Nat) ≠ 56))).trans (zn3 (by decide : (174 : Nat) ≠ 128) (by decide : (173 : Nat) ≠ 128)))).trans (zn2 (by decide : (174 : Nat) ≠ 173))) rfl) ?_
      refine zb_goto E dX12_part_171 (tgt := 238) rfl ?_
      obtain ⟨rfl, rfl, rfl, rfl, rfl, rfl, rfl, rfl, rfl⟩ := zinj9 h
      exact zb_vret E hQ rfl ⟨Nat.zero_le _, Nat.zero_le _⟩ dX12_part_238
  · have h := if_f h hc
    obtain ⟨rfl, rfl, rfl, rfl, rfl, rfl, rfl, rfl, rfl⟩ := zinj9 h
    exact zb_vret E hQ rfl ⟨Nat.zero_le _, Nat.zero_le _⟩ dX12_part_153
theorem c_X12_part_0 {C : zC} {I : Nat → Nat → Int32} {J : Nat → Nat → Int64} {Rr : Nat → Nat → Option Nat} {D : zD} (N : Nat) (v_end : Int32) (e_v_end : I 128 20 = v_end) (v_debtWord : (Nat → Int32)) (e_v_debtWord : I 161 = v_debtWord) (v_maxWord : (Nat → Int32)) (e_v_maxWord : I 164 = v_maxWord) (v_minWord : (Nat → Int32)) (e_v_minWord : I 163 = v_minWord) (v_paidWord : (Nat → Int32)) (e_v_paidWord : I 162 = v_paidWord) (v_penceWord : (Nat → Int32)) (e_v_penceWord : I 156 = v_penceWord) (v_poundsWord : (Nat → Int32)) (e_v_poundsWord : I 158 = v_poundsWord) (v_shillingsWord : (Nat → Int32)) (e_v_shillingsWord : I 157 = v_shillingsWord) (v_tape : (Nat → Int32)) (e_v_tape : I 143 = v_tape) (v_termWord : (Nat → Int32)) (e_v_termWord : I 159 = v_termWord) (v_yearWord : (Nat → Int32)) (e_v_yearWord : I 160 = v_yearWord) (y_v_at : Int32) (y_v_bad : Int32) (y_v_badPlace : Int32) (y_v_coded : Int32) (y_v_ended : Int32) (y_v_open : Int32) (y_v_waits : Int32) (y_v_codes : (Nat → Int32)) (y_v_wait : (Nat → Int32)) (E : zE C RX12 cX12_part 5 none ({ frames := 4, cells := 0, slots := 0, locals := 86 } : Room)) (hQ : C.Q = zQv C ({ frames := 4, cells := 0, slots := 0, locals := 86 } : Room) ((va_up (va_up (va_up I 128 (va_up (va_up (va_up (va_up (va_up (va_up (va_up (I 128) 19 y_v_at) 21 y_v_ended) 22 y_v_bad) 23 y_v_badPlace) 56 y_v_coded) 58 y_v_waits) 59 y_v_open)) 173 y_v_codes) 174 y_v_wait), J, Rr, D)) (v_at : Int32) (v_bad : Int32) (v_badPlace : Int32) (v_coded : Int32) (v_ended : Int32) (v_open : Int32) (v_waits : Int32) (v_codes : (Nat → Int32)) (v_wait : (Nat → Int32)) (h : pM_part N v_at v_bad v_badPlace v_coded v_end v_ended v_open v_waits v_codes v_debtWord v_maxWord v_minWord v_paidWord v_penceWord v_poundsWord v_shillingsWord v_tape v_termWord v_wait v_yearWord = some (y_v_at, y_v_bad, y_v_badPlace, y_v_coded, y_v_ended, y_v_open, y_v_waits, y_v_codes, y_v_wait)) : zB C (0, 0) 0 [(0, .ref (C.X.1 + 128))] [] ((va_up (va_up (va_up I 128 (va_up (va_up (va_up (va_up (va_up (va_up (va_up (I 128) 19 v_at) 21 v_ended) 22 v_bad) 23 v_badPlace) 56 v_coded) 58 v_waits) 59 v_open)) 173 v_codes) 174 v_wait), J, Rr, D) := by
  refine zb_iconst E dX12_part_0 (v := 1) rfl ?_
  refine zb_istore_n E dX12_part_1 rfl (by decide) (lv2 := [(1, .int 1), (0, .ref (C.X.1 + 128))]) rfl ?_
  refine zb_sub [1, 0] rfl ?_
  exact c_X12_part_b2 N v_end e_v_end v_debtWord e_v_debtWord v_maxWord e_v_maxWord v_minWord e_v_minWord v_paidWord e_v_paidWord v_penceWord e_v_penceWord v_poundsWord e_v_poundsWord v_shillingsWord e_v_shillingsWord v_tape e_v_tape v_termWord e_v_termWord v_yearWord e_v_yearWord y_v_at y_v_bad y_v_badPlace y_v_coded y_v_ended y_v_open y_v_waits y_v_codes y_v_wait E hQ v_coded v_codes _ (fun v_at_z1 v_bad_z2 v_badPlace_z3 v_ended_z4 v_open_z5 v_waits_z6 v_wait_z7 h => c_X12_part_b146 N v_end e_v_end v_debtWord e_v_debtWord v_maxWord e_v_maxWord v_minWord e_v_minWord v_paidWord e_v_paidWord v_penceWord e_v_penceWord v_poundsWord e_v_poundsWord v_shillingsWord e_v_shillingsWord v_tape e_v_tape v_termWord e_v_termWord v_yearWord e_v_yearWord y_v_at y_v_bad y_v_badPlace y_v_coded y_v_ended y_v_open y_v_waits y_v_codes y_v_wait E hQ v_at_z1 v_bad_z2 v_badPlace_z3 v_coded v_ended_z4 v_open_z5 v_waits_z6 v_codes v_wait_z7 h) _ 1 v_at v_bad v_badPlace v_ended v_open v_waits v_wait h
theorem c_X12_part {l : Launch} {X : zX} {I : Nat → Nat → Int32} {J : Nat → Nat → Int64} {Rr : Nat → Nat → Option Nat} {D : zD} {N : Nat} (oI128 : Nat → Int32) (eoI128 : I 128 = oI128) (v_end : Int32) (e_v_end : I 128 20 = v_end) (v_debtWord : (Nat → Int32)) (e_v_debtWord : I 161 = v_debtWord) (v_maxWord : (Nat → Int32)) (e_v_maxWord : I 164 = v_maxWord) (v_minWord : (Nat → Int32)) (e_v_minWord : I 163 = v_minWord) (v_paidWord : (Nat → Int32)) (e_v_paidWord : I 162 = v_paidWord) (v_penceWord : (Nat → Int32)) (e_v_penceWord : I 156 = v_penceWord) (v_poundsWord : (Nat → Int32)) (e_v_poundsWord : I 158 = v_poundsWord) (v_shillingsWord : (Nat → Int32)) (e_v_shillingsWord : I 157 = v_shillingsWord) (v_tape : (Nat → Int32)) (e_v_tape : I 143 = v_tape) (v_termWord : (Nat → Int32)) (e_v_termWord : I 159 = v_termWord) (v_yearWord : (Nat → Int32)) (e_v_yearWord : I 160 = v_yearWord) (v_at : Int32) (e_v_at : I 128 19 = v_at) (v_bad : Int32) (e_v_bad : I 128 22 = v_bad) (v_badPlace : Int32) (e_v_badPlace : I 128 23 = v_badPlace) (v_coded : Int32) (e_v_coded : I 128 56 = v_coded) (v_ended : Int32) (e_v_ended : I 128 21 = v_ended) (v_open : Int32) (e_v_open : I 128 59 = v_open) (v_waits : Int32) (e_v_waits : I 128 58 = v_waits) (v_codes : (Nat → Int32)) (e_v_codes : I 173 = v_codes) (v_wait : (Nat → Int32)) (e_v_wait : I 174 = v_wait) {y_v_at : Int32} {y_v_bad : Int32} {y_v_badPlace : Int32} {y_v_coded : Int32} {y_v_ended : Int32} {y_v_open : Int32} {y_v_waits : Int32} {y_v_codes : (Nat → Int32)} {y_v_wait : (Nat → Int32)} (h : pM_part N v_at v_bad v_badPlace v_coded v_end v_ended v_open v_waits v_codes v_debtWord v_maxWord v_minWord v_paidWord v_penceWord v_poundsWord v_shillingsWord v_tape v_termWord v_wait v_yearWord = some (y_v_at, y_v_bad, y_v_badPlace, y_v_coded, y_v_ended, y_v_open, y_v_waits, y_v_codes, y_v_wait)) : zMv l yX12_part cX12_part 5 none ({ frames := 4, cells := 0, slots := 0, locals := 86 } : Room) X [.ref (X.1 + 128)] (I, J, Rr, D) ((va_up (va_up (va_up I 128 (va_up (va_up (va_up (va_up (va_up (va_up (va_up oI128 19 y_v_at) 21 y_v_ended) 22 y_v_bad) 23 y_v_badPlace) 56 y_v_coded) 58 y_v_waits) 59 y_v_open)) 173 y_v_codes) 174 y_v_wait), J, Rr, D) := by
  subst eoI128
  refine zMv.of (by decide) (Nat.le_of_ble_eq_true rfl) (fun C E hl hX hQ => ?_)
  subst hl
  subst hX
  have eI0 : (va_up (va_up (va_up I 128 (va_up (va_up (va_up (va_up (va_up (va_up (va_up (I 128) 19 v_at) 21 v_ended) 22 v_bad) 23 v_badPlace) 56 v_coded) 58 v_waits) 59 v_open)) 173 v_codes) 174 v_wait) = I := by rw [zup_idE e_v_at, zup_idE e_v_ended, zup_idE e_v_bad, zup_idE e_v_badPlace, zup_idE e_v_coded, zup_idE e_v_waits, zup_idE e_v_open, zup_id, zup_idE e_v_codes, zup_idE e_v_wait]
  have eJ0 : J = J := rfl
  refine zb_S (S2 := ((va_up (va_up (va_up I 128 (va_up (va_up (va_up (va_up (va_up (va_up (va_up (I 128) 19 v_at) 21 v_ended) 22 v_bad) 23 v_badPlace) 56 v_coded) 58 v_waits) 59 v_open)) 173 v_codes) 174 v_wait), J, Rr, D)) (zS_eq eI0.symm eJ0.symm) ?_
  exact c_X12_part_0 N v_end e_v_end v_debtWord e_v_debtWord v_maxWord e_v_maxWord v_minWord e_v_minWord v_paidWord e_v_paidWord v_penceWord e_v_penceWord v_poundsWord e_v_poundsWord v_shillingsWord e_v_shillingsWord v_tape e_v_tape v_termWord e_v_termWord v_yearWord e_v_yearWord y_v_at y_v_bad y_v_badPlace y_v_coded y_v_ended y_v_open y_v_waits y_v_codes y_v_wait E hQ v_at v_bad v_badPlace v_coded v_ended v_open v_waits v_codes v_wait h
-- ChequeredClothModel.goesOn
theorem dX12_goesOn_0 : decode cX12_goesOn 0 = .ok (.aload_n 0, 1) := by decide +kernel
theorem dX12_goesOn_1 : decode cX12_goesOn 1 = .ok (.getfield 275, 3) := by decide +kernel
theorem dX12_goesOn_4 : decode cX12_goesOn 4 = .ok (.ifCond .ne 114, 3) := by decide +kernel
theorem dX12_goesOn_7 : decode cX12_goesOn 7 = .ok (.aload_n 0, 1) := by decide +kernel
theorem dX12_goesOn_8 : decode cX12_goesOn 8 = .ok (.invokevirtual 287, 3) := by decide +kernel
theorem dX12_goesOn_11 : decode cX12_goesOn 11 = .ok (.bipush 41, 2) := by decide +kernel
theorem dX12_goesOn_13 : decode cX12_goesOn 13 = .ok (.if_icmp .ne 105, 3) := by decide +kernel
theorem dX12_goesOn_16 : decode cX12_goesOn 16 = .ok (.aload_n 0, 1) := by decide +kernel
theorem dX12_goesOn_17 : decode cX12_goesOn 17 = .ok (.invokevirtual 352, 3) := by decide +kernel
theorem dX12_goesOn_20 : decode cX12_goesOn 20 = .ok (.bipush 20, 2) := by decide +kernel
theorem dX12_goesOn_22 : decode cX12_goesOn 22 = .ok (.if_icmp .eq 21, 3) := by decide +kernel
theorem dX12_goesOn_25 : decode cX12_goesOn 25 = .ok (.aload_n 0, 1) := by decide +kernel
theorem dX12_goesOn_26 : decode cX12_goesOn 26 = .ok (.invokevirtual 352, 3) := by decide +kernel
theorem dX12_goesOn_29 : decode cX12_goesOn 29 = .ok (.bipush 23, 2) := by decide +kernel
theorem dX12_goesOn_31 : decode cX12_goesOn 31 = .ok (.if_icmp .eq 12, 3) := by decide +kernel
theorem dX12_goesOn_34 : decode cX12_goesOn 34 = .ok (.aload_n 0, 1) := by decide +kernel
theorem dX12_goesOn_35 : decode cX12_goesOn 35 = .ok (.invokevirtual 352, 3) := by decide +kernel
theorem dX12_goesOn_38 : decode cX12_goesOn 38 = .ok (.bipush 24, 2) := by decide +kernel
theorem dX12_goesOn_40 : decode cX12_goesOn 40 = .ok (.if_icmp .ne 78, 3) := by decide +kernel
theorem dX12_goesOn_43 : decode cX12_goesOn 43 = .ok (.aload_n 0, 1) := by decide +kernel
theorem dX12_goesOn_44 : decode cX12_goesOn 44 = .ok (.dup, 1) := by decide +kernel
theorem dX12_goesOn_45 : decode cX12_goesOn 45 = .ok (.getfield 281, 3) := by decide +kernel
theorem dX12_goesOn_48 : decode cX12_goesOn 48 = .ok (.iconst 1, 1) := by decide +kernel
theorem dX12_goesOn_49 : decode cX12_goesOn 49 = .ok (.iadd, 1) := by decide +kernel
theorem dX12_goesOn_50 : decode cX12_goesOn 50 = .ok (.putfield 281, 3) := by decide +kernel
theorem dX12_goesOn_53 : decode cX12_goesOn 53 = .ok (.aload_n 0, 1) := by decide +kernel
theorem dX12_goesOn_54 : decode cX12_goesOn 54 = .ok (.invokevirtual 355, 3) := by decide +kernel
theorem dX12_goesOn_57 : decode cX12_goesOn 57 = .ok (.aload_n 0, 1) := by decide +kernel
theorem dX12_goesOn_58 : decode cX12_goesOn 58 = .ok (.dup, 1) := by decide +kernel
theorem dX12_goesOn_59 : decode cX12_goesOn 59 = .ok (.getfield 320, 3) := by decide +kernel
theorem dX12_goesOn_62 : decode cX12_goesOn 62 = .ok (.iconst 1, 1) := by decide +kernel
theorem dX12_goesOn_63 : decode cX12_goesOn 63 = .ok (.isub, 1) := by decide +kernel
theorem dX12_goesOn_64 : decode cX12_goesOn 64 = .ok (.putfield 320, 3) := by decide +kernel
theorem dX12_goesOn_67 : decode cX12_goesOn 67 = .ok (.aload_n 0, 1) := by decide +kernel
theorem dX12_goesOn_68 : decode cX12_goesOn 68 = .ok (.dup, 1) := by decide +kernel
theorem dX12_goesOn_69 : decode cX12_goesOn 69 = .ok (.getfield 317, 3) := by decide +kernel
theorem dX12_goesOn_72 : decode cX12_goesOn 72 = .ok (.iconst 1, 1) := by decide +kernel
theorem dX12_goesOn_73 : decode cX12_goesOn 73 = .ok (.isub, 1) := by decide +kernel
theorem dX12_goesOn_74 : decode cX12_goesOn 74 = .ok (.putfield 317, 3) := by decide +kernel
theorem dX12_goesOn_77 : decode cX12_goesOn 77 = .ok (.aload_n 0, 1) := by decide +kernel
theorem dX12_goesOn_78 : decode cX12_goesOn 78 = .ok (.getfield 162, 3) := by decide +kernel
theorem dX12_goesOn_81 : decode cX12_goesOn 81 = .ok (.aload_n 0, 1) := by decide +kernel
theorem dX12_goesOn_82 : decode cX12_goesOn 82 = .ok (.getfield 320, 3) := by decide +kernel
theorem dX12_goesOn_85 : decode cX12_goesOn 85 = .ok (.iaload, 1) := by decide +kernel
theorem dX12_goesOn_86 : decode cX12_goesOn 86 = .ok (.bipush 20, 2) := by decide +kernel
theorem dX12_goesOn_88 : decode cX12_goesOn 88 = .ok (.if_icmp .eq (-88), 3) := by decide +kernel
theorem dX12_goesOn_91 : decode cX12_goesOn 91 = .ok (.aload_n 0, 1) := by decide +kernel
theorem dX12_goesOn_92 : decode cX12_goesOn 92 = .ok (.aload_n 0, 1) := by decide +kernel
theorem dX12_goesOn_93 : decode cX12_goesOn 93 = .ok (.getfield 162, 3) := by decide +kernel
theorem dX12_goesOn_96 : decode cX12_goesOn 96 = .ok (.aload_n 0, 1) := by decide +kernel
theorem dX12_goesOn_97 : decode cX12_goesOn 97 = .ok (.getfield 320, 3) := by decide +kernel
theorem dX12_goesOn_100 : decode cX12_goesOn 100 = .ok (.iaload, 1) := by decide +kernel
theorem dX12_goesOn_101 : decode cX12_goesOn 101 = .ok (.bipush 23, 2) := by decide +kernel
theorem dX12_goesOn_103 : decode cX12_goesOn 103 = .ok (.if_icmp .ne 7, 3) := by decide +kernel
theorem dX12_goesOn_106 : decode cX12_goesOn 106 = .ok (.iconst 5, 1) := by decide +kernel
theorem dX12_goesOn_107 : decode cX12_goesOn 107 = .ok (.goto 5, 3) := by decide +kernel
theorem dX12_goesOn_110 : decode cX12_goesOn 110 = .ok (.bipush 6, 2) := by decide +kernel
theorem dX12_goesOn_112 : decode cX12_goesOn 112 = .ok (.invokevirtual 323, 3) := by decide +kernel
theorem dX12_goesOn_115 : decode cX12_goesOn 115 = .ok (.goto (-115), 3) := by decide +kernel
theorem dX12_goesOn_118 : decode cX12_goesOn 118 = .ok (.aload_n 0, 1) := by decide +kernel
theorem dX12_goesOn_119 : decode cX12_goesOn 119 = .ok (.bipush 42, 2) := by decide +kernel
theorem dX12_goesOn_121 : decode cX12_goesOn 121 = .ok (.invokevirtual 308, 3) := by decide +kernel
theorem dX12_goesOn_124 : decode cX12_goesOn 124 = .ok (.ifCond .ne 12, 3) := by decide +kernel
theorem dX12_goesOn_127 : decode cX12_goesOn 127 = .ok (.aload_n 0, 1) := by decide +kernel
theorem dX12_goesOn_128 : decode cX12_goesOn 128 = .ok (.bipush 47, 2) := by decide +kernel
theorem dX12_goesOn_130 : decode cX12_goesOn 130 = .ok (.invokevirtual 308, 3) := by decide +kernel
theorem dX12_goesOn_133 : decode cX12_goesOn 133 = .ok (.ifCond .eq 70, 3) := by decide +kernel
theorem dX12_goesOn_136 : decode cX12_goesOn 136 = .ok (.aload_n 0, 1) := by decide +kernel
theorem dX12_goesOn_137 : decode cX12_goesOn 137 = .ok (.getfield 63, 3) := by decide +kernel
theorem dX12_goesOn_140 : decode cX12_goesOn 140 = .ok (.aload_n 0, 1) := by decide +kernel
theorem dX12_goesOn_141 : decode cX12_goesOn 141 = .ok (.getfield 281, 3) := by decide +kernel
theorem dX12_goesOn_144 : decode cX12_goesOn 144 = .ok (.iconst 1, 1) := by decide +kernel
theorem dX12_goesOn_145 : decode cX12_goesOn 145 = .ok (.isub, 1) := by decide +kernel
theorem dX12_goesOn_146 : decode cX12_goesOn 146 = .ok (.iaload, 1) := by decide +kernel
theorem dX12_goesOn_147 : decode cX12_goesOn 147 = .ok (.bipush 42, 2) := by decide +kernel
theorem dX12_goesOn_149 : decode cX12_goesOn 149 = .ok (.if_icmp .ne 7, 3) := by decide +kernel
theorem dX12_goesOn_152 : decode cX12_goesOn 152 = .ok (.iconst 3, 1) := by decide +kernel
theorem dX12_goesOn_153 : decode cX12_goesOn 153 = .ok (.goto 4, 3) := by decide +kernel
theorem dX12_goesOn_156 : decode cX12_goesOn 156 = .ok (.iconst 4, 1) := by decide +kernel
theorem dX12_goesOn_157 : decode cX12_goesOn 157 = .ok (.istore_n 1, 1) := by decide +kernel
theorem dX12_goesOn_158 : decode cX12_goesOn 158 = .ok (.aload_n 0, 1) := by decide +kernel
theorem dX12_goesOn_159 : decode cX12_goesOn 159 = .ok (.iconst 3, 1) := by decide +kernel
theorem dX12_goesOn_160 : decode cX12_goesOn 160 = .ok (.invokevirtual 358, 3) := by decide +kernel
theorem dX12_goesOn_163 : decode cX12_goesOn 163 = .ok (.ifCond .ne 11, 3) := by decide +kernel
theorem dX12_goesOn_166 : decode cX12_goesOn 166 = .ok (.aload_n 0, 1) := by decide +kernel
theorem dX12_goesOn_167 : decode cX12_goesOn 167 = .ok (.iconst 4, 1) := by decide +kernel
theorem dX12_goesOn_168 : decode cX12_goesOn 168 = .ok (.invokevirtual 358, 3) := by decide +kernel
theorem dX12_goesOn_171 : decode cX12_goesOn 171 = .ok (.ifCond .eq 10, 3) := by decide +kernel
theorem dX12_goesOn_174 : decode cX12_goesOn 174 = .ok (.aload_n 0, 1) := by decide +kernel
theorem dX12_goesOn_175 : decode cX12_goesOn 175 = .ok (.invokevirtual 332, 3) := by decide +kernel
theorem dX12_goesOn_178 : decode cX12_goesOn 178 = .ok (.goto (-20), 3) := by decide +kernel
theorem dX12_goesOn_181 : decode cX12_goesOn 181 = .ok (.aload_n 0, 1) := by decide +kernel
theorem dX12_goesOn_182 : decode cX12_goesOn 182 = .ok (.getfield 162, 3) := by decide +kernel
theorem dX12_goesOn_185 : decode cX12_goesOn 185 = .ok (.aload_n 0, 1) := by decide +kernel
theorem dX12_goesOn_186 : decode cX12_goesOn 186 = .ok (.getfield 320, 3) := by decide +kernel
theorem dX12_goesOn_189 : decode cX12_goesOn 189 = .ok (.iload_n 1, 1) := by decide +kernel
theorem dX12_goesOn_190 : decode cX12_goesOn 190 = .ok (.iastore, 1) := by decide +kernel
theorem dX12_goesOn_191 : decode cX12_goesOn 191 = .ok (.aload_n 0, 1) := by decide +kernel
theorem dX12_goesOn_192 : decode cX12_goesOn 192 = .ok (.dup, 1) := by decide +kernel
theorem dX12_goesOn_193 : decode cX12_goesOn 193 = .ok (.getfield 320, 3) := by decide +kernel
theorem dX12_goesOn_196 : decode cX12_goesOn 196 = .ok (.iconst 1, 1) := by decide +kernel
theorem dX12_goesOn_197 : decode cX12_goesOn 197 = .ok (.iadd, 1) := by decide +kernel
theorem dX12_goesOn_198 : decode cX12_goesOn 198 = .ok (.putfield 320, 3) := by decide +kernel
theorem dX12_goesOn_201 : decode cX12_goesOn 201 = .ok (.iconst 1, 1) := by decide +kernel
theorem dX12_goesOn_202 : decode cX12_goesOn 202 = .ok (.ireturn, 1) := by decide +kernel
theorem dX12_goesOn_203 : decode cX12_goesOn 203 = .ok (.aload_n 0, 1) := by decide +kernel
theorem dX12_goesOn_204 : decode cX12_goesOn 204 = .ok (.bipush 43, 2) := by decide +kernel
theorem dX12_goesOn_206 : decode cX12_goesOn 206 = .ok (.invokevirtual 308, 3) := by decide +kernel
theorem dX12_goesOn_209 : decode cX12_goesOn 209 = .ok (.ifCond .ne 12, 3) := by decide +kernel
theorem dX12_goesOn_212 : decode cX12_goesOn 212 = .ok (.aload_n 0, 1) := by decide +kernel
theorem dX12_goesOn_213 : decode cX12_goesOn 213 = .ok (.bipush 45, 2) := by decide +kernel
theorem dX12_goesOn_215 : decode cX12_goesOn 215 = .ok (.invokevirtual 308, 3) := by decide +kernel
theorem dX12_goesOn_218 : decode cX12_goesOn 218 = .ok (.ifCond .eq 86, 3) := by decide +kernel
theorem dX12_goesOn_221 : decode cX12_goesOn 221 = .ok (.aload_n 0, 1) := by decide +kernel
theorem dX12_goesOn_222 : decode cX12_goesOn 222 = .ok (.getfield 63, 3) := by decide +kernel
theorem dX12_goesOn_225 : decode cX12_goesOn 225 = .ok (.aload_n 0, 1) := by decide +kernel
theorem dX12_goesOn_226 : decode cX12_goesOn 226 = .ok (.getfield 281, 3) := by decide +kernel
theorem dX12_goesOn_229 : decode cX12_goesOn 229 = .ok (.iconst 1, 1) := by decide +kernel
theorem dX12_goesOn_230 : decode cX12_goesOn 230 = .ok (.isub, 1) := by decide +kernel
theorem dX12_goesOn_231 : decode cX12_goesOn 231 = .ok (.iaload, 1) := by decide +kernel
theorem dX12_goesOn_232 : decode cX12_goesOn 232 = .ok (.bipush 43, 2) := by decide +kernel
theorem dX12_goesOn_234 : decode cX12_goesOn 234 = .ok (.if_icmp .ne 7, 3) := by decide +kernel
theorem dX12_goesOn_237 : decode cX12_goesOn 237 = .ok (.iconst 1, 1) := by decide +kernel
theorem dX12_goesOn_238 : decode cX12_goesOn 238 = .ok (.goto 4, 3) := by decide +kernel
theorem dX12_goesOn_241 : decode cX12_goesOn 241 = .ok (.iconst 2, 1) := by decide +kernel
theorem dX12_goesOn_242 : decode cX12_goesOn 242 = .ok (.istore_n 1, 1) := by decide +kernel
theorem dX12_goesOn_243 : decode cX12_goesOn 243 = .ok (.aload_n 0, 1) := by decide +kernel
theorem dX12_goesOn_244 : decode cX12_goesOn 244 = .ok (.iconst 3, 1) := by decide +kernel
theorem dX12_goesOn_245 : decode cX12_goesOn 245 = .ok (.invokevirtual 358, 3) := by decide +kernel
theorem dX12_goesOn_248 : decode cX12_goesOn 248 = .ok (.ifCond .ne 27, 3) := by decide +kernel
theorem dX12_goesOn_251 : decode cX12_goesOn 251 = .ok (.aload_n 0, 1) := by decide +kernel
theorem dX12_goesOn_252 : decode cX12_goesOn 252 = .ok (.iconst 4, 1) := by decide +kernel
theorem dX12_goesOn_253 : decode cX12_goesOn 253 = .ok (.invokevirtual 358, 3) := by decide +kernel
theorem dX12_goesOn_256 : decode cX12_goesOn 256 = .ok (.ifCond .ne 19, 3) := by decide +kernel
theorem dX12_goesOn_259 : decode cX12_goesOn 259 = .ok (.aload_n 0, 1) := by decide +kernel
theorem dX12_goesOn_260 : decode cX12_goesOn 260 = .ok (.iconst 1, 1) := by decide +kernel
theorem dX12_goesOn_261 : decode cX12_goesOn 261 = .ok (.invokevirtual 358, 3) := by decide +kernel
theorem dX12_goesOn_264 : decode cX12_goesOn 264 = .ok (.ifCond .ne 11, 3) := by decide +kernel
theorem dX12_goesOn_267 : decode cX12_goesOn 267 = .ok (.aload_n 0, 1) := by decide +kernel
theorem dX12_goesOn_268 : decode cX12_goesOn 268 = .ok (.iconst 2, 1) := by decide +kernel
theorem dX12_goesOn_269 : decode cX12_goesOn 269 = .ok (.invokevirtual 358, 3) := by decide +kernel
theorem dX12_goesOn_272 : decode cX12_goesOn 272 = .ok (.ifCond .eq 10, 3) := by decide +kernel
theorem dX12_goesOn_275 : decode cX12_goesOn 275 = .ok (.aload_n 0, 1) := by decide +kernel
theorem dX12_goesOn_276 : decode cX12_goesOn 276 = .ok (.invokevirtual 332, 3) := by decide +kernel
theorem dX12_goesOn_279 : decode cX12_goesOn 279 = .ok (.goto (-36), 3) := by decide +kernel
theorem dX12_goesOn_282 : decode cX12_goesOn 282 = .ok (.aload_n 0, 1) := by decide +kernel
theorem dX12_goesOn_283 : decode cX12_goesOn 283 = .ok (.getfield 162, 3) := by decide +kernel
theorem dX12_goesOn_286 : decode cX12_goesOn 286 = .ok (.aload_n 0, 1) := by decide +kernel
theorem dX12_goesOn_287 : decode cX12_goesOn 287 = .ok (.getfield 320, 3) := by decide +kernel
theorem dX12_goesOn_290 : decode cX12_goesOn 290 = .ok (.iload_n 1, 1) := by decide +kernel
theorem dX12_goesOn_291 : decode cX12_goesOn 291 = .ok (.iastore, 1) := by decide +kernel
theorem dX12_goesOn_292 : decode cX12_goesOn 292 = .ok (.aload_n 0, 1) := by decide +kernel
theorem dX12_goesOn_293 : decode cX12_goesOn 293 = .ok (.dup, 1) := by decide +kernel
theorem dX12_goesOn_294 : decode cX12_goesOn 294 = .ok (.getfield 320, 3) := by decide +kernel
theorem dX12_goesOn_297 : decode cX12_goesOn 297 = .ok (.iconst 1, 1) := by decide +kernel
theorem dX12_goesOn_298 : decode cX12_goesOn 298 = .ok (.iadd, 1) := by decide +kernel
theorem dX12_goesOn_299 : decode cX12_goesOn 299 = .ok (.putfield 320, 3) := by decide +kernel
theorem dX12_goesOn_302 : decode cX12_goesOn 302 = .ok (.iconst 1, 1) := by decide +kernel
theorem dX12_goesOn_303 : decode cX12_goesOn 303 = .ok (.ireturn, 1) := by decide +kernel
theorem dX12_goesOn_304 : decode cX12_goesOn 304 = .ok (.aload_n 0, 1) := by decide +kernel
theorem dX12_goesOn_305 : decode cX12_goesOn 305 = .ok (.invokevirtual 352, 3) := by decide +kernel
theorem dX12_goesOn_308 : decode cX12_goesOn 308 = .ok (.bipush 21, 2) := by decide +kernel
theorem dX12_goesOn_310 : decode cX12_goesOn 310 = .ok (.if_icmp .eq 12, 3) := by decide +kernel
theorem dX12_goesOn_313 : decode cX12_goesOn 313 = .ok (.aload_n 0, 1) := by decide +kernel
theorem dX12_goesOn_314 : decode cX12_goesOn 314 = .ok (.invokevirtual 352, 3) := by decide +kernel
theorem dX12_goesOn_317 : decode cX12_goesOn 317 = .ok (.bipush 22, 2) := by decide +kernel
theorem dX12_goesOn_319 : decode cX12_goesOn 319 = .ok (.if_icmp .ne 39, 3) := by decide +kernel
theorem dX12_goesOn_322 : decode cX12_goesOn 322 = .ok (.aload_n 0, 1) := by decide +kernel
theorem dX12_goesOn_323 : decode cX12_goesOn 323 = .ok (.bipush 44, 2) := by decide +kernel
theorem dX12_goesOn_325 : decode cX12_goesOn 325 = .ok (.invokevirtual 342, 3) := by decide +kernel
theorem dX12_goesOn_328 : decode cX12_goesOn 328 = .ok (.aload_n 0, 1) := by decide +kernel
theorem dX12_goesOn_329 : decode cX12_goesOn 329 = .ok (.getfield 275, 3) := by decide +kernel
theorem dX12_goesOn_332 : decode cX12_goesOn 332 = .ok (.ifCond .eq 5, 3) := by decide +kernel
theorem dX12_goesOn_335 : decode cX12_goesOn 335 = .ok (.iconst 0, 1) := by decide +kernel
theorem dX12_goesOn_336 : decode cX12_goesOn 336 = .ok (.ireturn, 1) := by decide +kernel
theorem dX12_goesOn_337 : decode cX12_goesOn 337 = .ok (.aload_n 0, 1) := by decide +kernel
theorem dX12_goesOn_338 : decode cX12_goesOn 338 = .ok (.invokevirtual 355, 3) := by decide +kernel
theorem dX12_goesOn_341 : decode cX12_goesOn 341 = .ok (.aload_n 0, 1) := by decide +kernel
theorem dX12_goesOn_342 : decode cX12_goesOn 342 = .ok (.getfield 162, 3) := by decide +kernel
theorem dX12_goesOn_345 : decode cX12_goesOn 345 = .ok (.aload_n 0, 1) := by decide +kernel
theorem dX12_goesOn_346 : decode cX12_goesOn 346 = .ok (.getfield 320, 3) := by decide +kernel
theorem dX12_goesOn_349 : decode cX12_goesOn 349 = .ok (.iconst 1, 1) := by decide +kernel
theorem dX12_goesOn_350 : decode cX12_goesOn 350 = .ok (.isub, 1) := by decide +kernel
theorem dX12_goesOn_351 : decode cX12_goesOn 351 = .ok (.dup2, 1) := by decide +kernel
theorem dX12_goesOn_352 : decode cX12_goesOn 352 = .ok (.iaload, 1) := by decide +kernel
theorem dX12_goesOn_353 : decode cX12_goesOn 353 = .ok (.iconst 2, 1) := by decide +kernel
theorem dX12_goesOn_354 : decode cX12_goesOn 354 = .ok (.iadd, 1) := by decide +kernel
theorem dX12_goesOn_355 : decode cX12_goesOn 355 = .ok (.iastore, 1) := by decide +kernel
theorem dX12_goesOn_356 : decode cX12_goesOn 356 = .ok (.iconst 1, 1) := by decide +kernel
theorem dX12_goesOn_357 : decode cX12_goesOn 357 = .ok (.ireturn, 1) := by decide +kernel
theorem dX12_goesOn_358 : decode cX12_goesOn 358 = .ok (.aload_n 0, 1) := by decide +kernel
theorem dX12_goesOn_359 : decode cX12_goesOn 359 = .ok (.invokevirtual 352, 3) := by decide +kernel
theorem dX12_goesOn_362 : decode cX12_goesOn 362 = .ok (.iconst (-1), 1) := by decide +kernel
theorem dX12_goesOn_363 : decode cX12_goesOn 363 = .ok (.if_icmp .eq 19, 3) := by decide +kernel
theorem dX12_goesOn_366 : decode cX12_goesOn 366 = .ok (.aload_n 0, 1) := by decide +kernel
theorem dX12_goesOn_367 : decode cX12_goesOn 367 = .ok (.getfield 275, 3) := by decide +kernel
theorem dX12_goesOn_370 : decode cX12_goesOn 370 = .ok (.ifCond .ne 12, 3) := by decide +kernel
theorem dX12_goesOn_373 : decode cX12_goesOn 373 = .ok (.aload_n 0, 1) := by decide +kernel
theorem dX12_goesOn_374 : decode cX12_goesOn 374 = .ok (.iconst 1, 1) := by decide +kernel
theorem dX12_goesOn_375 : decode cX12_goesOn 375 = .ok (.aload_n 0, 1) := by decide +kernel
theorem dX12_goesOn_376 : decode cX12_goesOn 376 = .ok (.getfield 281, 3) := by decide +kernel
theorem dX12_goesOn_379 : decode cX12_goesOn 379 = .ok (.invokevirtual 304, 3) := by decide +kernel
theorem dX12_goesOn_382 : decode cX12_goesOn 382 = .ok (.iconst 0, 1) := by decide +kernel
theorem dX12_goesOn_383 : decode cX12_goesOn 383 = .ok (.ireturn, 1) := by decide +kernel
theorem zy_X12_goesOn : zYv yX12_goesOn cX12_goesOn 2 (some .boolean) 0 := ⟨zw_1634, zws_70, zw_12, zw_1635, by decide, by decide, by decide⟩
theorem c_X12_goesOn_b112 {C : zC} {I : Nat → Nat → Int32} {J : Nat → Nat → Int64} {Rr : Nat → Nat → Option Nat} {D : zD} (N : Nat) (v_base : Int32) (e_v_base : I 128 60 = v_base) (v_end : Int32) (e_v_end : I 128 20 = v_end) (v_tape : (Nat → Int32)) (e_v_tape : I 143 = v_tape) (rr : Int32) (y_v_at : Int32) (y_v_bad : Int32) (y_v_badPlace : Int32) (y_v_coded : Int32) (y_v_open : Int32) (y_v_waits : Int32) (y_v_codes : (Nat → Int32)) (y_v_wait : (Nat → Int32)) (E : zE C RX12 cX12_goesOn 2 (some .boolean) ({ frames := 3, cells := 0, slots := 0, locals := 62 } : Room)) (hQ : C.Q = zQi C ({ frames := 3, cells := 0, slots := 0, locals := 62 } : Room) rr ((va_up (va_up (va_up I 128 (va_up (va_up (va_up (va_up (va_up (va_up (I 128) 19 y_v_at) 22 y_v_bad) 23 y_v_badPlace) 56 y_v_coded) 58 y_v_waits) 59 y_v_open)) 173 y_v_codes) 174 y_v_wait), J, Rr, D)) (s1 : Int32) (v_at : Int32) (v_bad : Int32) (v_badPlace : Int32) (v_coded : Int32) (v_open : Int32) (v_waits : Int32) (v_codes : (Nat → Int32)) (v_wait : (Nat → Int32)) (self : Int32 → Int32 → Int32 → Int32 → (Nat → Int32) → Option R_pM_goesOn) (ih : ∀ (v_at : Int32) (v_coded : Int32) (v_open : Int32) (v_waits : Int32) (v_codes : (Nat → Int32)), self v_at v_coded v_open v_waits v_codes = some (rr, y_v_at, y_v_bad, y_v_badPlace, y_v_coded, y_v_open, y_v_waits, y_v_codes, y_v_wait) → zB C (0, 0) 0 [(0, .ref (C.X.1 + 128))] [] ((va_up (va_up (va_up I 128 (va_up (va_up (va_up (va_up (va_up (va_up (I 128) 19 v_at) 22 v_bad) 23 v_badPlace) 56 v_coded) 58 v_waits) 59 v_open)) 173 v_codes) 174 v_wait), J, Rr, D)) (k118 : Int32 → Int32 → Int32 → Int32 → (Nat → Int32) → Option R_pM_goesOn) (hk118 : ∀ (v_at : Int32) (v_coded : Int32) (v_open : Int32) (v_waits : Int32) (v_codes : (Nat → Int32)), k118 v_at v_coded v_open v_waits v_codes = some (rr, y_v_at, y_v_bad, y_v_badPlace, y_v_coded, y_v_open, y_v_waits, y_v_codes, y_v_wait) → zB C (0, 0) 118 [(0, .ref (C.X.1 + 128))] [] ((va_up (va_up (va_up I 128 (va_up (va_up (va_up (va_up (va_up (va_up (I 128) 19 v_at) 22 v_bad) 23 v_badPlace) 56 v_coded) 58 v_waits) 59 v_open)) 173 v_codes) 174 v_wait), J, Rr, D)) (h : pM_goesOn_b112 N v_base v_end v_tape self k118 s1 v_at v_bad v_badPlace v_coded v_open v_waits v_codes v_wait = some (rr, y_v_at, y_v_bad, y_v_badPlace, y_v_coded, y_v_open, y_v_waits, y_v_codes, y_v_wait)) : zB C (0, 0) 112 [(0, .ref (C.X.1 + 128))] [.int s1, .ref (C.X.1 + 128)] ((va_up (va_up (va_up I 128 (va_up (va_up (va_up (va_up (va_up (va_up (I 128) 19 v_at) 22 v_bad) 23 v_badPlace) 56 v_coded) 58 v_waits) 59 v_open)) 173 v_codes) 174 v_wait), J, Rr, D) := by
  obtain ⟨v_coded_c20, v_codes_c20, hc_112, h⟩ := bd2_s h
  refine zb_cVv E [.int s1] 128 zy_X12_code zw_1616 (by decide) (zF_128 _ _ _ _) rfl (c_X12_code (va_up (va_up (va_up (va_up (va_up (va_up (I 128) 19 v_at) 22 v_bad) 23 v_badPlace) 56 v_coded) 58 v_waits) 59 v_open) rfl v_coded rfl v_codes rfl hc_112) (by decide) rfl rfl (by first | decide | simp [Value.category]) dX12_goesOn_112 (cs2 := (0, 0)) rfl ?_
  refine zb_S (S2 := ((va_up (va_up (va_up I 128 (va_up (va_up (va_up (va_up (va_up (va_up (I 128) 19 v_at) 22 v_bad) 23 v_badPlace) 56 v_coded_c20) 58 v_waits) 59 v_open)) 173 v_codes_c20) 174 v_wait), J, Rr, D)) (zS_eq ((zcgF ((zcgV (zn3 (by decide : (59 : Nat) ≠ 56) (by decide : (58 : Nat) ≠ 56))).trans (zn3 (by decide : (174 : Nat) ≠ 128) (by decide : (173 : Nat) ≠ 128)))).trans (zn2 (by decide : (174 : Nat) ≠ 173))) rfl) ?_
  refine zb_goto E dX12_goesOn_115 (tgt := 0) rfl ?_
  exact ih v_at v_coded_c20 v_open v_waits v_codes_c20 h
theorem c_X12_goesOn_b43 {C : zC} {I : Nat → Nat → Int32} {J : Nat → Nat → Int64} {Rr : Nat → Nat → Option Nat} {D : zD} (N : Nat) (v_base : Int32) (e_v_base : I 128 60 = v_base) (v_end : Int32) (e_v_end : I 128 20 = v_end) (v_tape : (Nat → Int32)) (e_v_tape : I 143 = v_tape) (rr : Int32) (y_v_at : Int32) (y_v_bad : Int32) (y_v_badPlace : Int32) (y_v_coded : Int32) (y_v_open : Int32) (y_v_waits : Int32) (y_v_codes : (Nat → Int32)) (y_v_wait : (Nat → Int32)) (E : zE C RX12 cX12_goesOn 2 (some .boolean) ({ frames := 3, cells := 0, slots := 0, locals := 62 } : Room)) (hQ : C.Q = zQi C ({ frames := 3, cells := 0, slots := 0, locals := 62 } : Room) rr ((va_up (va_up (va_up I 128 (va_up (va_up (va_up (va_up (va_up (va_up (I 128) 19 y_v_at) 22 y_v_bad) 23 y_v_badPlace) 56 y_v_coded) 58 y_v_waits) 59 y_v_open)) 173 y_v_codes) 174 y_v_wait), J, Rr, D)) (v_at : Int32) (v_bad : Int32) (v_badPlace : Int32) (v_coded : Int32) (v_open : Int32) (v_waits : Int32) (v_codes : (Nat → Int32)) (v_wait : (Nat → Int32)) (self : Int32 → Int32 → Int32 → Int32 → (Nat → Int32) → Option R_pM_goesOn) (ih : ∀ (v_at : Int32) (v_coded : Int32) (v_open : Int32) (v_waits : Int32) (v_codes : (Nat → Int32)), self v_at v_coded v_open v_waits v_codes = some (rr, y_v_at, y_v_bad, y_v_badPlace, y_v_coded, y_v_open, y_v_waits, y_v_codes, y_v_wait) → zB C (0, 0) 0 [(0, .ref (C.X.1 + 128))] [] ((va_up (va_up (va_up I 128 (va_up (va_up (va_up (va_up (va_up (va_up (I 128) 19 v_at) 22 v_bad) 23 v_badPlace) 56 v_coded) 58 v_waits) 59 v_open)) 173 v_codes) 174 v_wait), J, Rr, D)) (k118 : Int32 → Int32 → Int32 → Int32 → (Nat → Int32) → Option R_pM_goesOn) (hk118 : ∀ (v_at : Int32) (v_coded : Int32) (v_open : Int32) (v_waits : Int32) (v_codes : (Nat → Int32)), k118 v_at v_coded v_open v_waits v_codes = some (rr, y_v_at, y_v_bad, y_v_badPlace, y_v_coded, y_v_open, y_v_waits, y_v_codes, y_v_wait) → zB C (0, 0) 118 [(0, .ref (C.X.1 + 128))] [] ((va_up (va_up (va_up I 128 (va_up (va_up (va_up (va_up (va_up (va_up (I 128) 19 v_at) 22 v_bad) 23 v_badPlace) 56 v_coded) 58 v_waits) 59 v_open)) 173 v_codes) 174 v_wait), J, Rr, D)) (h : pM_goesOn_b43 N v_base v_end v_tape self k118 v_at v_bad v_badPlace v_coded v_open v_waits v_codes v_wait = some (rr, y_v_at, y_v_bad, y_v_badPlace, y_v_coded, y_v_open, y_v_waits, y_v_codes, y_v_wait)) : zB C (0, 0) 43 [(0, .ref (C.X.1 + 128))] [] ((va_up (va_up (va_up I 128 (va_up (va_up (va_up (va_up (va_up (va_up (I 128) 19 v_at) 22 v_bad) 23 v_badPlace) 56 v_coded) 58 v_waits) 59 v_open)) 173 v_codes) 174 v_wait), J, Rr, D) := by
  refine zb_aload_n E dX12_goesOn_43 0 rfl rfl ?_
  refine zb_dup E dX12_goesOn_44 rfl ?_
  refine zb_get E 128 (by decide) (zF_128 C.X) rfl zin12 19 (by decide) zw_1187 (v := .int v_at) rfl dX12_goesOn_45 ?_
  refine zb_iconst E dX12_goesOn_48 (v := 1) rfl ?_
  refine zb_iadd E dX12_goesOn_49 ?_
  refine zb_put E 128 (by decide) (zF_128 C.X) rfl zin12 19 (by decide) zw_1187 tyX12 tyX12_ok nmX12 rfl rfl rfl (I2 := (va_up (va_up (va_up I 128 (va_up (va_up (va_up (va_up (va_up (va_up (I 128) 19 (v_at + 1)) 22 v_bad) 23 v_badPlace) 56 v_coded) 58 v_waits) 59 v_open)) 173 v_codes) 174 v_wait)) (J2 := J) ((zset12_19 C.X (va_up (va_up (va_up (va_up (va_up (va_up (I 128) 19 v_at) 22 v_bad) 23 v_badPlace) 56 v_coded) 58 v_waits) 59 v_open) (J 128) (v_at + 1)).trans (congrArg (fun g => zf12 C.X g (J 128)) (zn6 (by decide : (59 : Nat) ≠ 19) (by decide : (58 : Nat) ≠ 19) (by decide : (56 : Nat) ≠ 19) (by decide : (23 : Nat) ≠ 19) (by decide : (22 : Nat) ≠ 19)))) (by rw [zflen12]; decide) (fun j hj => ⟨zup_cg (zup_cg ((zup_n hj).trans (zup_n hj).symm)), rfl⟩) dX12_goesOn_50 ?_
  refine zb_aload_n E dX12_goesOn_53 0 rfl rfl ?_
  obtain ⟨v_coded_c13, v_waits_c13, v_codes_c13, hc_54, h⟩ := bd3_s h
  refine zb_cVv E [] 128 zy_X12_dropsToMark zw_1644 (by decide) (zF_128 _ _ _ _) rfl (c_X12_dropsToMark (va_up (va_up (va_up (va_up (va_up (va_up (I 128) 19 (v_at + 1)) 22 v_bad) 23 v_badPlace) 56 v_coded) 58 v_waits) 59 v_open) rfl v_base (by exact e_v_base) v_wait rfl v_coded rfl v_waits rfl v_codes rfl hc_54) (by decide) rfl rfl (by first | decide | simp [Value.category]) dX12_goesOn_54 (cs2 := (0, 0)) rfl ?_
  refine zb_S (S2 := ((va_up (va_up (va_up I 128 (va_up (va_up (va_up (va_up (va_up (va_up (I 128) 19 (v_at + 1)) 22 v_bad) 23 v_badPlace) 56 v_coded_c13) 58 v_waits_c13) 59 v_open)) 173 v_codes_c13) 174 v_wait), J, Rr, D)) (zS_eq ((zcgF ((zcgV ((zcgF (zn3 (by decide : (59 : Nat) ≠ 56) (by decide : (58 : Nat) ≠ 56))).trans (zn2 (by decide : (59 : Nat) ≠ 58)))).trans (zn3 (by decide : (174 : Nat) ≠ 128) (by decide : (173 : Nat) ≠ 128)))).trans (zn2 (by decide : (174 : Nat) ≠ 173))) rfl) ?_
  refine zb_aload_n E dX12_goesOn_57 0 rfl rfl ?_
  refine zb_dup E dX12_goesOn_58 rfl ?_
  refine zb_get E 128 (by decide) (zF_128 C.X) rfl zin12 58 (by decide) zw_1226 (v := .int v_waits_c13) rfl dX12_goesOn_59 ?_
  refine zb_iconst E dX12_goesOn_62 (v := 1) rfl ?_
  refine zb_isub E dX12_goesOn_63 ?_
  refine zb_put E 128 (by decide) (zF_128 C.X) rfl zin12 58 (by decide) zw_1226 tyX12 tyX12_ok nmX12 rfl rfl rfl (I2 := (va_up (va_up (va_up I 128 (va_up (va_up (va_up (va_up (va_up (va_up (I 128) 19 (v_at + 1)) 22 v_bad) 23 v_badPlace) 56 v_coded_c13) 58 (v_waits_c13 - 1)) 59 v_open)) 173 v_codes_c13) 174 v_wait)) (J2 := J) ((zset12_58 C.X (va_up (va_up (va_up (va_up (va_up (va_up (I 128) 19 (v_at + 1)) 22 v_bad) 23 v_badPlace) 56 v_coded_c13) 58 v_waits_c13) 59 v_open) (J 128) (v_waits_c13 - 1)).trans (congrArg (fun g => zf12 C.X g (J 128)) (zn2 (by decide : (59 : Nat) ≠ 58)))) (by rw [zflen12]; decide) (fun j hj => ⟨zup_cg (zup_cg ((zup_n hj).trans (zup_n hj).symm)), rfl⟩) dX12_goesOn_64 ?_
  refine zb_aload_n E dX12_goesOn_67 0 rfl rfl ?_
  refine zb_dup E dX12_goesOn_68 rfl ?_
  refine zb_get E 128 (by decide) (zF_128 C.X) rfl zin12 59 (by decide) zw_1227 (v := .int v_open) rfl dX12_goesOn_69 ?_
  refine zb_iconst E dX12_goesOn_72 (v := 1) rfl ?_
  refine zb_isub E dX12_goesOn_73 ?_
  refine zb_put E 128 (by decide) (zF_128 C.X) rfl zin12 59 (by decide) zw_1227 tyX12 tyX12_ok nmX12 rfl rfl rfl (I2 := (va_up (va_up (va_up I 128 (va_up (va_up (va_up (va_up (va_up (va_up (I 128) 19 (v_at + 1)) 22 v_bad) 23 v_badPlace) 56 v_coded_c13) 58 (v_waits_c13 - 1)) 59 (v_open - 1))) 173 v_codes_c13) 174 v_wait)) (J2 := J) ((zset12_59 C.X (va_up (va_up (va_up (va_up (va_up (va_up (I 128) 19 (v_at + 1)) 22 v_bad) 23 v_badPlace) 56 v_coded_c13) 58 (v_waits_c13 - 1)) 59 v_open) (J 128) (v_open - 1)).trans (congrArg (fun g => zf12 C.X g (J 128)) zn1)) (by rw [zflen12]; decide) (fun j hj => ⟨zup_cg (zup_cg ((zup_n hj).trans (zup_n hj).symm)), rfl⟩) dX12_goesOn_74 ?_
  refine zb_aload_n E dX12_goesOn_77 0 rfl rfl ?_
  refine zb_get E 128 (by decide) (zF_128 C.X) rfl zin12 57 (by decide) zw_1225 (v := .ref (C.X.1 + 174)) rfl dX12_goesOn_78 ?_
  refine zb_aload_n E dX12_goesOn_81 0 rfl rfl ?_
  refine zb_get E 128 (by decide) (zF_128 C.X) rfl zin12 58 (by decide) zw_1226 (v := .int (v_waits_c13 - 1)) rfl dX12_goesOn_82 ?_
  obtain ⟨g14, h⟩ := gd_s h
  refine zb_iald E 174 (by decide) zF_174 (f := v_wait) rfl (ib_in g14) dX12_goesOn_85 ?_
  refine zb_bipush E dX12_goesOn_86 (v := 20) rfl ?_
  refine zb_icmp_eq E dX12_goesOn_88 (tgt := 0) rfl (fun hc => ?_) (fun hc => ?_)
  · have h := if_t h hc
    exact ih (v_at + 1) v_coded_c13 (v_open - 1) (v_waits_c13 - 1) v_codes_c13 h
  · have h := if_f h hc
    refine zb_aload_n E dX12_goesOn_91 0 rfl rfl ?_
    refine zb_aload_n E dX12_goesOn_92 0 rfl rfl ?_
    refine zb_get E 128 (by decide) (zF_128 C.X) rfl zin12 57 (by decide) zw_1225 (v := .ref (C.X.1 + 174)) rfl dX12_goesOn_93 ?_
    refine zb_aload_n E dX12_goesOn_96 0 rfl rfl ?_
    refine zb_get E 128 (by decide) (zF_128 C.X) rfl zin12 58 (by decide) zw_1226 (v := .int (v_waits_c13 - 1)) rfl dX12_goesOn_97 ?_
    refine zb_iald E 174 (by decide) zF_174 (f := v_wait) rfl (ib_in g14) dX12_goesOn_100 ?_
    refine zb_bipush E dX12_goesOn_101 (v := 23) rfl ?_
    refine zb_icmp_ne E dX12_goesOn_103 (tgt := 110) rfl (fun hc => ?_) (fun hc => ?_)
    · have h := if_f h hc
      refine zb_bipush E dX12_goesOn_110 (v := 6) rfl ?_
      exact c_X12_goesOn_b112 N v_base e_v_base v_end e_v_end v_tape e_v_tape rr y_v_at y_v_bad y_v_badPlace y_v_coded y_v_open y_v_waits y_v_codes y_v_wait E hQ 6 (v_at + 1) v_bad v_badPlace v_coded_c13 (v_open - 1) (v_waits_c13 - 1) v_codes_c13 v_wait self ih k118 hk118 h
    · have h := if_t h hc
      refine zb_iconst E dX12_goesOn_106 (v := 5) rfl ?_
      refine zb_goto E dX12_goesOn_107 (tgt := 112) rfl ?_
      exact c_X12_goesOn_b112 N v_base e_v_base v_end e_v_end v_tape e_v_tape rr y_v_at y_v_bad y_v_badPlace y_v_coded y_v_open y_v_waits y_v_codes y_v_wait E hQ 5 (v_at + 1) v_bad v_badPlace v_coded_c13 (v_open - 1) (v_waits_c13 - 1) v_codes_c13 v_wait self ih k118 hk118 h
theorem c_X12_goesOn_b0 {C : zC} {I : Nat → Nat → Int32} {J : Nat → Nat → Int64} {Rr : Nat → Nat → Option Nat} {D : zD} (N : Nat) (v_base : Int32) (e_v_base : I 128 60 = v_base) (v_end : Int32) (e_v_end : I 128 20 = v_end) (v_tape : (Nat → Int32)) (e_v_tape : I 143 = v_tape) (rr : Int32) (y_v_at : Int32) (y_v_bad : Int32) (y_v_badPlace : Int32) (y_v_coded : Int32) (y_v_open : Int32) (y_v_waits : Int32) (y_v_codes : (Nat → Int32)) (y_v_wait : (Nat → Int32)) (E : zE C RX12 cX12_goesOn 2 (some .boolean) ({ frames := 3, cells := 0, slots := 0, locals := 62 } : Room)) (hQ : C.Q = zQi C ({ frames := 3, cells := 0, slots := 0, locals := 62 } : Room) rr ((va_up (va_up (va_up I 128 (va_up (va_up (va_up (va_up (va_up (va_up (I 128) 19 y_v_at) 22 y_v_bad) 23 y_v_badPlace) 56 y_v_coded) 58 y_v_waits) 59 y_v_open)) 173 y_v_codes) 174 y_v_wait), J, Rr, D)) (v_bad : Int32) (v_badPlace : Int32) (v_wait : (Nat → Int32)) (k118 : Int32 → Int32 → Int32 → Int32 → (Nat → Int32) → Option R_pM_goesOn) (hk118 : ∀ (v_at : Int32) (v_coded : Int32) (v_open : Int32) (v_waits : Int32) (v_codes : (Nat → Int32)), k118 v_at v_coded v_open v_waits v_codes = some (rr, y_v_at, y_v_bad, y_v_badPlace, y_v_coded, y_v_open, y_v_waits, y_v_codes, y_v_wait) → zB C (0, 0) 118 [(0, .ref (C.X.1 + 128))] [] ((va_up (va_up (va_up I 128 (va_up (va_up (va_up (va_up (va_up (va_up (I 128) 19 v_at) 22 v_bad) 23 v_badPlace) 56 v_coded) 58 v_waits) 59 v_open)) 173 v_codes) 174 v_wait), J, Rr, D)) : ∀ (n9 : Nat) (v_at : Int32) (v_coded : Int32) (v_open : Int32) (v_waits : Int32) (v_codes : (Nat → Int32)), pM_goesOn_b0 N v_base v_end v_tape v_bad v_badPlace v_wait k118 n9 v_at v_coded v_open v_waits v_codes = some (rr, y_v_at, y_v_bad, y_v_badPlace, y_v_coded, y_v_open, y_v_waits, y_v_codes, y_v_wait) → zB C (0, 0) 0 [(0, .ref (C.X.1 + 128))] [] ((va_up (va_up (va_up I 128 (va_up (va_up (va_up (va_up (va_up (va_up (I 128) 19 v_at) 22 v_bad) 23 v_badPlace) 56 v_coded) 58 v_waits) 59 v_open)) 173 v_codes) 174 v_wait), J, Rr, D) := by
  refine zlp5_ind (P := fun (v_at : Int32) (v_coded : Int32) (v_open : Int32) (v_waits : Int32) (v_codes : (Nat → Int32)) => zB C (0, 0) 0 [(0, .ref (C.X.1 + 128))] [] ((va_up (va_up (va_up I 128 (va_up (va_up (va_up (va_up (va_up (va_up (I 128) 19 v_at) 22 v_bad) 23 v_badPlace) 56 v_coded) 58 v_waits) 59 v_open)) 173 v_codes) 174 v_wait), J, Rr, D)) (fun self ih => ?_)
  intro v_at v_coded v_open v_waits v_codes h
  refine zb_aload_n E dX12_goesOn_0 0 rfl rfl ?_
  refine zb_get E 128 (by decide) (zF_128 C.X) rfl zin12 22 (by decide) zw_1190 (v := .int v_bad) rfl dX12_goesOn_1 ?_
  refine zb_if_ne E dX12_goesOn_4 (tgt := 118) rfl (fun hc => ?_) (fun hc => ?_)
  · have h := if_f h hc
    exact hk118 v_at v_coded v_open v_waits v_codes h
  · have h := if_t h hc
    refine zb_aload_n E dX12_goesOn_7 0 rfl rfl ?_
    obtain ⟨rc1, v_at_c1, hc_8, h⟩ := bd2_s h
    refine zb_cVi E [] 128 zy_X12_look zw_1569 (by decide) (zF_128 _ _ _ _) rfl (c_X12_look (va_up (va_up (va_up (va_up (va_up (va_up (I 128) 19 v_at) 22 v_bad) 23 v_badPlace) 56 v_coded) 58 v_waits) 59 v_open) rfl v_end (by exact e_v_end) v_tape (by exact e_v_tape) v_at rfl hc_8) (by decide) rfl rfl (by first | decide | simp [Value.category]) dX12_goesOn_8 (cs2 := (0, 0)) rfl ?_
    refine zb_S (S2 := ((va_up (va_up (va_up I 128 (va_up (va_up (va_up (va_up (va_up (va_up (I 128) 19 v_at_c1) 22 v_bad) 23 v_badPlace) 56 v_coded) 58 v_waits) 59 v_open)) 173 v_codes) 174 v_wait), J, Rr, D)) (zS_eq ((zcgV (zn6 (by decide : (59 : Nat) ≠ 19) (by decide : (58 : Nat) ≠ 19) (by decide : (56 : Nat) ≠ 19) (by decide : (23 : Nat) ≠ 19) (by decide : (22 : Nat) ≠ 19))).trans (zn3 (by decide : (174 : Nat) ≠ 128) (by decide : (173 : Nat) ≠ 128))) rfl) ?_
    refine zb_bipush E dX12_goesOn_11 (v := 41) rfl ?_
    refine zb_icmp_ne E dX12_goesOn_13 (tgt := 118) rfl (fun hc => ?_) (fun hc => ?_)
    · have h := if_f h hc
      exact hk118 v_at_c1 v_coded v_open v_waits v_codes h
    · have h := if_t h hc
      refine zb_aload_n E dX12_goesOn_16 0 rfl rfl ?_
      obtain ⟨rc2, hc_17, h⟩ := bd1_s h
      refine zb_cVi E [] 128 zy_X12_mark zw_1636 (by decide) (zF_128 _ _ _ _) rfl (c_X12_mark v_base (by exact e_v_base) v_waits rfl v_wait rfl hc_17) (by decide) rfl rfl (by first | decide | simp [Value.category]) dX12_goesOn_17 (cs2 := (0, 0)) rfl ?_
      refine zb_bipush E dX12_goesOn_20 (v := 20) rfl ?_
      refine zb_icmp_eq E dX12_goesOn_22 (tgt := 43) rfl (fun hc => ?_) (fun hc => ?_)
      · have h := if_t h hc
        exact c_X12_goesOn_b43 N v_base e_v_base v_end e_v_end v_tape e_v_tape rr y_v_at y_v_bad y_v_badPlace y_v_coded y_v_open y_v_waits y_v_codes y_v_wait E hQ v_at_c1 v_bad v_badPlace v_coded v_open v_waits v_codes v_wait self ih k118 hk118 h
      · have h := if_f h hc
        refine zb_aload_n E dX12_goesOn_25 0 rfl rfl ?_
        obtain ⟨rc3, hc_26, h⟩ := bd1_s h
        refine zb_cVi E [] 128 zy_X12_mark zw_1636 (by decide) (zF_128 _ _ _ _) rfl (c_X12_mark v_base (by exact e_v_base) v_waits rfl v_wait rfl hc_26) (by decide) rfl rfl (by first | decide | simp [Value.category]) dX12_goesOn_26 (cs2 := (0, 0)) rfl ?_
        refine zb_bipush E dX12_goesOn_29 (v := 23) rfl ?_
        refine zb_icmp_eq E dX12_goesOn_31 (tgt := 43) rfl (fun hc => ?_) (fun hc => ?_)
        · have h := if_t h hc
          exact c_X12_goesOn_b43 N v_base e_v_base v_end e_v_end v_tape e_v_tape rr y_v_at y_v_bad y_v_badPlace y_v_coded y_v_open y_v_waits y_v_codes y_v_wait E hQ v_at_c1 v_bad v_badPlace v_coded v_open v_waits v_codes v_wait self ih k118 hk118 h
        · have h := if_f h hc
          refine zb_aload_n E dX12_goesOn_34 0 rfl rfl ?_
          obtain ⟨rc4, hc_35, h⟩ := bd1_s h
          refine zb_cVi E [] 128 zy_X12_mark zw_1636 (by decide) (zF_128 _ _ _ _) rfl (c_X12_mark v_base (by exact e_v_base) v_waits rfl v_wait rfl hc_35) (by decide) rfl rfl (by first | decide | simp [Value.category]) dX12_goesOn_35 (cs2 := (0, 0)) rfl ?_
          refine zb_bipush E dX12_goesOn_38 (v := 24) rfl ?_
          refine zb_icmp_ne E dX12_goesOn_40 (tgt := 118) rfl (fun hc => ?_) (fun hc => ?_)
          · have h := if_f h hc
            exact hk118 v_at_c1 v_coded v_open v_waits v_codes h
          · have h := if_t h hc
            exact c_X12_goesOn_b43 N v_base e_v_base v_end e_v_end v_tape e_v_tape rr y_v_at y_v_bad y_v_badPlace y_v_coded y_v_open y_v_waits y_v_codes y_v_wait E hQ v_at_c1 v_bad v_badPlace v_coded v_open v_waits v_codes v_wait self ih k118 hk118 h
theorem c_X12_goesOn_b174 {C : zC} {I : Nat → Nat → Int32} {J : Nat → Nat → Int64} {Rr : Nat → Nat → Option Nat} {D : zD} (N : Nat) (v_base : Int32) (e_v_base : I 128 60 = v_base) (v_end : Int32) (e_v_end : I 128 20 = v_end) (v_tape : (Nat → Int32)) (e_v_tape : I 143 = v_tape) (rr : Int32) (y_v_at : Int32) (y_v_bad : Int32) (y_v_badPlace : Int32) (y_v_coded : Int32) (y_v_open : Int32) (y_v_waits : Int32) (y_v_codes : (Nat → Int32)) (y_v_wait : (Nat → Int32)) (E : zE C RX12 cX12_goesOn 2 (some .boolean) ({ frames := 3, cells := 0, slots := 0, locals := 62 } : Room)) (hQ : C.Q = zQi C ({ frames := 3, cells := 0, slots := 0, locals := 62 } : Room) rr ((va_up (va_up (va_up I 128 (va_up (va_up (va_up (va_up (va_up (va_up (I 128) 19 y_v_at) 22 y_v_bad) 23 y_v_badPlace) 56 y_v_coded) 58 y_v_waits) 59 y_v_open)) 173 y_v_codes) 174 y_v_wait), J, Rr, D)) (x1 : Int32) (v_at : Int32) (v_bad : Int32) (v_badPlace : Int32) (v_coded : Int32) (v_open : Int32) (v_waits : Int32) (v_codes : (Nat → Int32)) (v_wait : (Nat → Int32)) (self : Int32 → Int32 → (Nat → Int32) → Option R_pM_goesOn) (ih : ∀ (v_coded : Int32) (v_waits : Int32) (v_codes : (Nat → Int32)), self v_coded v_waits v_codes = some (rr, y_v_at, y_v_bad, y_v_badPlace, y_v_coded, y_v_open, y_v_waits, y_v_codes, y_v_wait) → zB C (0, 0) 158 [(0, .ref (C.X.1 + 128)), (1, .int x1)] [] ((va_up (va_up (va_up I 128 (va_up (va_up (va_up (va_up (va_up (va_up (I 128) 19 v_at) 22 v_bad) 23 v_badPlace) 56 v_coded) 58 v_waits) 59 v_open)) 173 v_codes) 174 v_wait), J, Rr, D)) (h : pM_goesOn_b174 N v_base v_end v_tape self x1 v_at v_bad v_badPlace v_coded v_open v_waits v_codes v_wait = some (rr, y_v_at, y_v_bad, y_v_badPlace, y_v_coded, y_v_open, y_v_waits, y_v_codes, y_v_wait)) : zB C (0, 0) 174 [(0, .ref (C.X.1 + 128)), (1, .int x1)] [] ((va_up (va_up (va_up I 128 (va_up (va_up (va_up (va_up (va_up (va_up (I 128) 19 v_at) 22 v_bad) 23 v_badPlace) 56 v_coded) 58 v_waits) 59 v_open)) 173 v_codes) 174 v_wait), J, Rr, D) := by
  refine zb_aload_n E dX12_goesOn_174 0 rfl rfl ?_
  obtain ⟨v_coded_c29, v_waits_c29, v_codes_c29, hc_175, h⟩ := bd3_s h
  refine zb_cVv E [] 128 zy_X12_drops zw_1648 (by decide) (zF_128 _ _ _ _) rfl (c_X12_drops (va_up (va_up (va_up (va_up (va_up (va_up (I 128) 19 v_at) 22 v_bad) 23 v_badPlace) 56 v_coded) 58 v_waits) 59 v_open) rfl v_wait rfl v_coded rfl v_waits rfl v_codes rfl hc_175) (by decide) rfl rfl (by first | decide | simp [Value.category]) dX12_goesOn_175 (cs2 := (0, 0)) rfl ?_
  refine zb_S (S2 := ((va_up (va_up (va_up I 128 (va_up (va_up (va_up (va_up (va_up (va_up (I 128) 19 v_at) 22 v_bad) 23 v_badPlace) 56 v_coded_c29) 58 v_waits_c29) 59 v_open)) 173 v_codes_c29) 174 v_wait), J, Rr, D)) (zS_eq ((zcgF ((zcgV ((zcgF (zn3 (by decide : (59 : Nat) ≠ 56) (by decide : (58 : Nat) ≠ 56))).trans (zn2 (by decide : (59 : Nat) ≠ 58)))).trans (zn3 (by decide : (174 : Nat) ≠ 128) (by decide : (173 : Nat) ≠ 128)))).trans (zn2 (by decide : (174 : Nat) ≠ 173))) rfl) ?_
  refine zb_goto E dX12_goesOn_178 (tgt := 158) rfl ?_
  exact ih v_coded_c29 v_waits_c29 v_codes_c29 h
theorem c_X12_goesOn_b158 {C : zC} {I : Nat → Nat → Int32} {J : Nat → Nat → Int64} {Rr : Nat → Nat → Option Nat} {D : zD} (N : Nat) (v_base : Int32) (e_v_base : I 128 60 = v_base) (v_end : Int32) (e_v_end : I 128 20 = v_end) (v_tape : (Nat → Int32)) (e_v_tape : I 143 = v_tape) (rr : Int32) (y_v_at : Int32) (y_v_bad : Int32) (y_v_badPlace : Int32) (y_v_coded : Int32) (y_v_open : Int32) (y_v_waits : Int32) (y_v_codes : (Nat → Int32)) (y_v_wait : (Nat → Int32)) (E : zE C RX12 cX12_goesOn 2 (some .boolean) ({ frames := 3, cells := 0, slots := 0, locals := 62 } : Room)) (hQ : C.Q = zQi C ({ frames := 3, cells := 0, slots := 0, locals := 62 } : Room) rr ((va_up (va_up (va_up I 128 (va_up (va_up (va_up (va_up (va_up (va_up (I 128) 19 y_v_at) 22 y_v_bad) 23 y_v_badPlace) 56 y_v_coded) 58 y_v_waits) 59 y_v_open)) 173 y_v_codes) 174 y_v_wait), J, Rr, D)) (x1 : Int32) (v_at : Int32) (v_bad : Int32) (v_badPlace : Int32) (v_open : Int32) (v_wait : (Nat → Int32))  : ∀ (n9 : Nat) (v_coded : Int32) (v_waits : Int32) (v_codes : (Nat → Int32)), pM_goesOn_b158 N v_base v_end v_tape x1 v_at v_bad v_badPlace v_open v_wait n9 v_coded v_waits v_codes = some (rr, y_v_at, y_v_bad, y_v_badPlace, y_v_coded, y_v_open, y_v_waits, y_v_codes, y_v_wait) → zB C (0, 0) 158 [(0, .ref (C.X.1 + 128)), (1, .int x1)] [] ((va_up (va_up (va_up I 128 (va_up (va_up (va_up (va_up (va_up (va_up (I 128) 19 v_at) 22 v_bad) 23 v_badPlace) 56 v_coded) 58 v_waits) 59 v_open)) 173 v_codes) 174 v_wait), J, Rr, D) := by
  refine zlp3_ind (P := fun (v_coded : Int32) (v_waits : Int32) (v_codes : (Nat → Int32)) => zB C (0, 0) 158 [(0, .ref (C.X.1 + 128)), (1, .int x1)] [] ((va_up (va_up (va_up I 128 (va_up (va_up (va_up (va_up (va_up (va_up (I 128) 19 v_at) 22 v_bad) 23 v_badPlace) 56 v_coded) 58 v_waits) 59 v_open)) 173 v_codes) 174 v_wait), J, Rr, D)) (fun self ih => ?_)
  intro v_coded v_waits v_codes h
  refine zb_aload_n E dX12_goesOn_158 0 rfl rfl ?_
  refine zb_iconst E dX12_goesOn_159 (v := 3) rfl ?_
  obtain ⟨rc21, hc_160, h⟩ := bd1_s h
  refine zb_cVi E [.int 3] 128 zy_X12_isOn zw_1652 (by decide) (zF_128 _ _ _ _) rfl (c_X12_isOn v_waits rfl v_wait rfl hc_160) (by decide) rfl rfl (by first | decide | simp [Value.category]) dX12_goesOn_160 (cs2 := (0, 0)) rfl ?_
  refine zb_if_ne E dX12_goesOn_163 (tgt := 174) rfl (fun hc => ?_) (fun hc => ?_)
  · have h := if_f h hc
    exact c_X12_goesOn_b174 N v_base e_v_base v_end e_v_end v_tape e_v_tape rr y_v_at y_v_bad y_v_badPlace y_v_coded y_v_open y_v_waits y_v_codes y_v_wait E hQ x1 v_at v_bad v_badPlace v_coded v_open v_waits v_codes v_wait self ih h
  · have h := if_t h hc
    refine zb_aload_n E dX12_goesOn_166 0 rfl rfl ?_
    refine zb_iconst E dX12_goesOn_167 (v := 4) rfl ?_
    obtain ⟨rc22, hc_168, h⟩ := bd1_s h
    refine zb_cVi E [.int 4] 128 zy_X12_isOn zw_1652 (by decide) (zF_128 _ _ _ _) rfl (c_X12_isOn v_waits rfl v_wait rfl hc_168) (by decide) rfl rfl (by first | decide | simp [Value.category]) dX12_goesOn_168 (cs2 := (0, 0)) rfl ?_
    refine zb_if_eq E dX12_goesOn_171 (tgt := 181) rfl (fun hc => ?_) (fun hc => ?_)
    · have h := if_t h hc
      refine zb_aload_n E dX12_goesOn_181 0 rfl rfl ?_
      refine zb_get E 128 (by decide) (zF_128 C.X) rfl zin12 57 (by decide) zw_1225 (v := .ref (C.X.1 + 174)) rfl dX12_goesOn_182 ?_
      refine zb_aload_n E dX12_goesOn_185 0 rfl rfl ?_
      refine zb_get E 128 (by decide) (zF_128 C.X) rfl zin12 58 (by decide) zw_1226 (v := .int v_waits) rfl dX12_goesOn_186 ?_
      refine zb_iload_n E dX12_goesOn_189 1 rfl rfl ?_
      obtain ⟨g23, h⟩ := gd_s h
      refine zb_iast E 174 (by decide) zF_174 (f := v_wait) rfl (ib_in g23) dX12_goesOn_190 (I2 := (va_up (va_up (va_up I 128 (va_up (va_up (va_up (va_up (va_up (va_up (I 128) 19 v_at) 22 v_bad) 23 v_badPlace) 56 v_coded) 58 v_waits) 59 v_open)) 173 v_codes) 174 (upd v_wait (ix v_waits) x1))) zn1 ?_
      refine zb_aload_n E dX12_goesOn_191 0 rfl rfl ?_
      refine zb_dup E dX12_goesOn_192 rfl ?_
      refine zb_get E 128 (by decide) (zF_128 C.X) rfl zin12 58 (by decide) zw_1226 (v := .int v_waits) rfl dX12_goesOn_193 ?_
      refine zb_iconst E dX12_goesOn_196 (v := 1) rfl ?_
      refine zb_iadd E dX12_goesOn_197 ?_
      refine zb_put E 128 (by decide) (zF_128 C.X) rfl zin12 58 (by decide) zw_1226 tyX12 tyX12_ok nmX12 rfl rfl rfl (I2 := (va_up (va_up (va_up I 128 (va_up (va_up (va_up (va_up (va_up (va_up (I 128) 19 v_at) 22 v_bad) 23 v_badPlace) 56 v_coded) 58 (v_waits + 1)) 59 v_open)) 173 v_codes) 174 (upd v_wait (ix v_waits) x1))) (J2 := J) ((zset12_58 C.X (va_up (va_up (va_up (va_up (va_up (va_up (I 128) 19 v_at) 22 v_bad) 23 v_badPlace) 56 v_coded) 58 v_waits) 59 v_open) (J 128) (v_waits + 1)).trans (congrArg (fun g => zf12 C.X g (J 128)) (zn2 (by decide : (59 : Nat) ≠ 58)))) (by rw [zflen12]; decide) (fun j hj => ⟨zup_cg (zup_cg ((zup_n hj).trans (zup_n hj).symm)), rfl⟩) dX12_goesOn_198 ?_
      refine zb_iconst E dX12_goesOn_201 (v := 1) rfl ?_
      obtain ⟨rfl, rfl, rfl, rfl, rfl, rfl, rfl, rfl, rfl⟩ := zinj9 h
      exact zb_zret E hQ (ty := .boolean) rfl rfl ⟨Nat.zero_le _, Nat.zero_le _⟩ dX12_goesOn_202
    · have h := if_f h hc
      exact c_X12_goesOn_b174 N v_base e_v_base v_end e_v_end v_tape e_v_tape rr y_v_at y_v_bad y_v_badPlace y_v_coded y_v_open y_v_waits y_v_codes y_v_wait E hQ x1 v_at v_bad v_badPlace v_coded v_open v_waits v_codes v_wait self ih h
theorem c_X12_goesOn_b136 {C : zC} {I : Nat → Nat → Int32} {J : Nat → Nat → Int64} {Rr : Nat → Nat → Option Nat} {D : zD} (N : Nat) (v_base : Int32) (e_v_base : I 128 60 = v_base) (v_end : Int32) (e_v_end : I 128 20 = v_end) (v_tape : (Nat → Int32)) (e_v_tape : I 143 = v_tape) (rr : Int32) (y_v_at : Int32) (y_v_bad : Int32) (y_v_badPlace : Int32) (y_v_coded : Int32) (y_v_open : Int32) (y_v_waits : Int32) (y_v_codes : (Nat → Int32)) (y_v_wait : (Nat → Int32)) (E : zE C RX12 cX12_goesOn 2 (some .boolean) ({ frames := 3, cells := 0, slots := 0, locals := 62 } : Room)) (hQ : C.Q = zQi C ({ frames := 3, cells := 0, slots := 0, locals := 62 } : Room) rr ((va_up (va_up (va_up I 128 (va_up (va_up (va_up (va_up (va_up (va_up (I 128) 19 y_v_at) 22 y_v_bad) 23 y_v_badPlace) 56 y_v_coded) 58 y_v_waits) 59 y_v_open)) 173 y_v_codes) 174 y_v_wait), J, Rr, D)) (v_at : Int32) (v_bad : Int32) (v_badPlace : Int32) (v_coded : Int32) (v_open : Int32) (v_waits : Int32) (v_codes : (Nat → Int32)) (v_wait : (Nat → Int32)) (h : pM_goesOn_b136 N v_base v_end v_tape v_at v_bad v_badPlace v_coded v_open v_waits v_codes v_wait = some (rr, y_v_at, y_v_bad, y_v_badPlace, y_v_coded, y_v_open, y_v_waits, y_v_codes, y_v_wait)) : zB C (0, 0) 136 [(0, .ref (C.X.1 + 128))] [] ((va_up (va_up (va_up I 128 (va_up (va_up (va_up (va_up (va_up (va_up (I 128) 19 v_at) 22 v_bad) 23 v_badPlace) 56 v_coded) 58 v_waits) 59 v_open)) 173 v_codes) 174 v_wait), J, Rr, D) := by
  refine zb_aload_n E dX12_goesOn_136 0 rfl rfl ?_
  refine zb_get E 128 (by decide) (zF_128 C.X) rfl zin12 17 (by decide) zw_1185 (v := .ref (C.X.1 + 143)) rfl dX12_goesOn_137 ?_
  refine zb_aload_n E dX12_goesOn_140 0 rfl rfl ?_
  refine zb_get E 128 (by decide) (zF_128 C.X) rfl zin12 19 (by decide) zw_1187 (v := .int v_at) rfl dX12_goesOn_141 ?_
  refine zb_iconst E dX12_goesOn_144 (v := 1) rfl ?_
  refine zb_isub E dX12_goesOn_145 ?_
  obtain ⟨g15, h⟩ := gd_s h
  refine zb_iald E 143 (by decide) zF_143 (f := v_tape) (by exact e_v_tape) (ib_in g15) dX12_goesOn_146 ?_
  refine zb_bipush E dX12_goesOn_147 (v := 42) rfl ?_
  refine zb_icmp_ne E dX12_goesOn_149 (tgt := 156) rfl (fun hc => ?_) (fun hc => ?_)
  · have h := if_f h hc
    refine zb_iconst E dX12_goesOn_156 (v := 4) rfl ?_
    refine zb_istore_n E dX12_goesOn_157 rfl (by decide) (lv2 := [(1, .int 4), (0, .ref (C.X.1 + 128))]) rfl ?_
    refine zb_sub [1, 0] rfl ?_
    exact c_X12_goesOn_b158 N v_base e_v_base v_end e_v_end v_tape e_v_tape rr y_v_at y_v_bad y_v_badPlace y_v_coded y_v_open y_v_waits y_v_codes y_v_wait E hQ 4 v_at v_bad v_badPlace v_open v_wait _ v_coded v_waits v_codes h
  · have h := if_t h hc
    refine zb_iconst E dX12_goesOn_152 (v := 3) rfl ?_
    refine zb_goto E dX12_goesOn_153 (tgt := 157) rfl ?_
    refine zb_istore_n E dX12_goesOn_157 rfl (by decide) (lv2 := [(1, .int 3), (0, .ref (C.X.1 + 128))]) rfl ?_
    refine zb_sub [1, 0] rfl ?_
    exact c_X12_goesOn_b158 N v_base e_v_base v_end e_v_end v_tape e_v_tape rr y_v_at y_v_bad y_v_badPlace y_v_coded y_v_open y_v_waits y_v_codes y_v_wait E hQ 3 v_at v_bad v_badPlace v_open v_wait _ v_coded v_waits v_codes h
theorem c_X12_goesOn_b275 {C : zC} {I : Nat → Nat → Int32} {J : Nat → Nat → Int64} {Rr : Nat → Nat → Option Nat} {D : zD} (N : Nat) (v_base : Int32) (e_v_base : I 128 60 = v_base) (v_end : Int32) (e_v_end : I 128 20 = v_end) (v_tape : (Nat → Int32)) (e_v_tape : I 143 = v_tape) (rr : Int32) (y_v_at : Int32) (y_v_bad : Int32) (y_v_badPlace : Int32) (y_v_coded : Int32) (y_v_open : Int32) (y_v_waits : Int32) (y_v_codes : (Nat → Int32)) (y_v_wait : (Nat → Int32)) (E : zE C RX12 cX12_goesOn 2 (some .boolean) ({ frames := 3, cells := 0, slots := 0, locals := 62 } : Room)) (hQ : C.Q = zQi C ({ frames := 3, cells := 0, slots := 0, locals := 62 } : Room) rr ((va_up (va_up (va_up I 128 (va_up (va_up (va_up (va_up (va_up (va_up (I 128) 19 y_v_at) 22 y_v_bad) 23 y_v_badPlace) 56 y_v_coded) 58 y_v_waits) 59 y_v_open)) 173 y_v_codes) 174 y_v_wait), J, Rr, D)) (x1 : Int32) (v_at : Int32) (v_bad : Int32) (v_badPlace : Int32) (v_coded : Int32) (v_open : Int32) (v_waits : Int32) (v_codes : (Nat → Int32)) (v_wait : (Nat → Int32)) (self : Int32 → Int32 → (Nat → Int32) → Option R_pM_goesOn) (ih : ∀ (v_coded : Int32) (v_waits : Int32) (v_codes : (Nat → Int32)), self v_coded v_waits v_codes = some (rr, y_v_at, y_v_bad, y_v_badPlace, y_v_coded, y_v_open, y_v_waits, y_v_codes, y_v_wait) → zB C (0, 0) 243 [(0, .ref (C.X.1 + 128)), (1, .int x1)] [] ((va_up (va_up (va_up I 128 (va_up (va_up (va_up (va_up (va_up (va_up (I 128) 19 v_at) 22 v_bad) 23 v_badPlace) 56 v_coded) 58 v_waits) 59 v_open)) 173 v_codes) 174 v_wait), J, Rr, D)) (h : pM_goesOn_b275 N v_base v_end v_tape self x1 v_at v_bad v_badPlace v_coded v_open v_waits v_codes v_wait = some (rr, y_v_at, y_v_bad, y_v_badPlace, y_v_coded, y_v_open, y_v_waits, y_v_codes, y_v_wait)) : zB C (0, 0) 275 [(0, .ref (C.X.1 + 128)), (1, .int x1)] [] ((va_up (va_up (va_up I 128 (va_up (va_up (va_up (va_up (va_up (va_up (I 128) 19 v_at) 22 v_bad) 23 v_badPlace) 56 v_coded) 58 v_waits) 59 v_open)) 173 v_codes) 174 v_wait), J, Rr, D) := by
  refine zb_aload_n E dX12_goesOn_275 0 rfl rfl ?_
  obtain ⟨v_coded_c30, v_waits_c30, v_codes_c30, hc_276, h⟩ := bd3_s h
  refine zb_cVv E [] 128 zy_X12_drops zw_1648 (by decide) (zF_128 _ _ _ _) rfl (c_X12_drops (va_up (va_up (va_up (va_up (va_up (va_up (I 128) 19 v_at) 22 v_bad) 23 v_badPlace) 56 v_coded) 58 v_waits) 59 v_open) rfl v_wait rfl v_coded rfl v_waits rfl v_codes rfl hc_276) (by decide) rfl rfl (by first | decide | simp [Value.category]) dX12_goesOn_276 (cs2 := (0, 0)) rfl ?_
  refine zb_S (S2 := ((va_up (va_up (va_up I 128 (va_up (va_up (va_up (va_up (va_up (va_up (I 128) 19 v_at) 22 v_bad) 23 v_badPlace) 56 v_coded_c30) 58 v_waits_c30) 59 v_open)) 173 v_codes_c30) 174 v_wait), J, Rr, D)) (zS_eq ((zcgF ((zcgV ((zcgF (zn3 (by decide : (59 : Nat) ≠ 56) (by decide : (58 : Nat) ≠ 56))).trans (zn2 (by decide : (59 : Nat) ≠ 58)))).trans (zn3 (by decide : (174 : Nat) ≠ 128) (by decide : (173 : Nat) ≠ 128)))).trans (zn2 (by decide : (174 : Nat) ≠ 173))) rfl) ?_
  refine zb_goto E dX12_goesOn_279 (tgt := 243) rfl ?_
  exact ih v_coded_c30 v_waits_c30 v_codes_c30 h
theorem c_X12_goesOn_b243 {C : zC} {I : Nat → Nat → Int32} {J : Nat → Nat → Int64} {Rr : Nat → Nat → Option Nat} {D : zD} (N : Nat) (v_base : Int32) (e_v_base : I 128 60 = v_base) (v_end : Int32) (e_v_end : I 128 20 = v_end) (v_tape : (Nat → Int32)) (e_v_tape : I 143 = v_tape) (rr : Int32) (y_v_at : Int32) (y_v_bad : Int32) (y_v_badPlace : Int32) (y_v_coded : Int32) (y_v_open : Int32) (y_v_waits : Int32) (y_v_codes : (Nat → Int32)) (y_v_wait : (Nat → Int32)) (E : zE C RX12 cX12_goesOn 2 (some .boolean) ({ frames := 3, cells := 0, slots := 0, locals := 62 } : Room)) (hQ : C.Q = zQi C ({ frames := 3, cells := 0, slots := 0, locals := 62 } : Room) rr ((va_up (va_up (va_up I 128 (va_up (va_up (va_up (va_up (va_up (va_up (I 128) 19 y_v_at) 22 y_v_bad) 23 y_v_badPlace) 56 y_v_coded) 58 y_v_waits) 59 y_v_open)) 173 y_v_codes) 174 y_v_wait), J, Rr, D)) (x1 : Int32) (v_at : Int32) (v_bad : Int32) (v_badPlace : Int32) (v_open : Int32) (v_wait : (Nat → Int32))  : ∀ (n9 : Nat) (v_coded : Int32) (v_waits : Int32) (v_codes : (Nat → Int32)), pM_goesOn_b243 N v_base v_end v_tape x1 v_at v_bad v_badPlace v_open v_wait n9 v_coded v_waits v_codes = some (rr, y_v_at, y_v_bad, y_v_badPlace, y_v_coded, y_v_open, y_v_waits, y_v_codes, y_v_wait) → zB C (0, 0) 243 [(0, .ref (C.X.1 + 128)), (1, .int x1)] [] ((va_up (va_up (va_up I 128 (va_up (va_up (va_up (va_up (va_up (va_up (I 128) 19 v_at) 22 v_bad) 23 v_badPlace) 56 v_coded) 58 v_waits) 59 v_open)) 173 v_codes) 174 v_wait), J, Rr, D) := by
  refine zlp3_ind (P := fun (v_coded : Int32) (v_waits : Int32) (v_codes : (Nat → Int32)) => zB C (0, 0) 243 [(0, .ref (C.X.1 + 128)), (1, .int x1)] [] ((va_up (va_up (va_up I 128 (va_up (va_up (va_up (va_up (va_up (va_up (I 128) 19 v_at) 22 v_bad) 23 v_badPlace) 56 v_coded) 58 v_waits) 59 v_open)) 173 v_codes) 174 v_wait), J, Rr, D)) (fun self ih => ?_)
  intro v_coded v_waits v_codes h
  refine zb_aload_n E dX12_goesOn_243 0 rfl rfl ?_
  refine zb_iconst E dX12_goesOn_244 (v := 3) rfl ?_
  obtain ⟨rc24, hc_245, h⟩ := bd1_s h
  refine zb_cVi E [.int 3] 128 zy_X12_isOn zw_1652 (by decide) (zF_128 _ _ _ _) rfl (c_X12_isOn v_waits rfl v_wait rfl hc_245) (by decide) rfl rfl (by first | decide | simp [Value.category]) dX12_goesOn_245 (cs2 := (0, 0)) rfl ?_
  refine zb_if_ne E dX12_goesOn_248 (tgt := 275) rfl (fun hc => ?_) (fun hc => ?_)
  · have h := if_f h hc
    exact c_X12_goesOn_b275 N v_base e_v_base v_end e_v_end v_tape e_v_tape rr y_v_at y_v_bad y_v_badPlace y_v_coded y_v_open y_v_waits y_v_codes y_v_wait E hQ x1 v_at v_bad v_badPlace v_coded v_open v_waits v_codes v_wait self ih h
  · have h := if_t h hc
    refine zb_aload_n E dX12_goesOn_251 0 rfl rfl ?_
    refine zb_iconst E dX12_goesOn_252 (v := 4) rfl ?_
    obtain ⟨rc25, hc_253, h⟩ := bd1_s h
    refine zb_cVi E [.int 4] 128 zy_X12_isOn zw_1652 (by decide) (zF_128 _ _ _ _) rfl (c_X12_isOn v_waits rfl v_wait rfl hc_253) (by decide) rfl rfl (by first | decide | simp [Value.category]) dX12_goesOn_253 (cs2 := (0, 0)) rfl ?_
    refine zb_if_ne E dX12_goesOn_256 (tgt := 275) rfl (fun hc => ?_) (fun hc => ?_)
    · have h := if_f h hc
      exact c_X12_goesOn_b275 N v_base e_v_base v_end e_v_end v_tape e_v_tape rr y_v_at y_v_bad y_v_badPlace y_v_coded y_v_open y_v_waits y_v_codes y_v_wait E hQ x1 v_at v_bad v_badPlace v_coded v_open v_waits v_codes v_wait self ih h
    · have h := if_t h hc
      refine zb_aload_n E dX12_goesOn_259 0 rfl rfl ?_
      refine zb_iconst E dX12_goesOn_260 (v := 1) rfl ?_
      obtain ⟨rc26, hc_261, h⟩ := bd1_s h
      refine zb_cVi E [.int 1] 128 zy_X12_isOn zw_1652 (by decide) (zF_128 _ _ _ _) rfl (c_X12_isOn v_waits rfl v_wait rfl hc_261) (by decide) rfl rfl (by first | decide | simp [Value.category]) dX12_goesOn_261 (cs2 := (0, 0)) rfl ?_
      refine zb_if_ne E dX12_goesOn_264 (tgt := 275) rfl (fun hc => ?_) (fun hc => ?_)
      · have h := if_f h hc
        exact c_X12_goesOn_b275 N v_base e_v_base v_end e_v_end v_tape e_v_tape rr y_v_at y_v_bad y_v_badPlace y_v_coded y_v_open y_v_waits y_v_codes y_v_wait E hQ x1 v_at v_bad v_badPlace v_coded v_open v_waits v_codes v_wait self ih h
      · have h := if_t h hc
        refine zb_aload_n E dX12_goesOn_267 0 rfl rfl ?_
        refine zb_iconst E dX12_goesOn_268 (v := 2) rfl ?_
        obtain ⟨rc27, hc_269, h⟩ := bd1_s h
        refine zb_cVi E [.int 2] 128 zy_X12_isOn zw_1652 (by decide) (zF_128 _ _ _ _) rfl (c_X12_isOn v_waits rfl v_wait rfl hc_269) (by decide) rfl rfl (by first | decide | simp [Value.category]) dX12_goesOn_269 (cs2 := (0, 0)) rfl ?_
        refine zb_if_eq E dX12_goesOn_272 (tgt := 282) rfl (fun hc => ?_) (fun hc => ?_)
        · have h := if_t h hc
          refine zb_aload_n E dX12_goesOn_282 0 rfl rfl ?_
          refine zb_get E 128 (by decide) (zF_128 C.X) rfl zin12 57 (by decide) zw_1225 (v := .ref (C.X.1 + 174)) rfl dX12_goesOn_283 ?_
          refine zb_aload_n E dX12_goesOn_286 0 rfl rfl ?_
          refine zb_get E 128 (by decide) (zF_128 C.X) rfl zin12 58 (by decide) zw_1226 (v := .int v_waits) rfl dX12_goesOn_287 ?_
          refine zb_iload_n E dX12_goesOn_290 1 rfl rfl ?_
          obtain ⟨g28, h⟩ := gd_s h
          refine zb_iast E 174 (by decide) zF_174 (f := v_wait) rfl (ib_in g28) dX12_goesOn_291 (I2 := (va_up (va_up (va_up I 128 (va_up (va_up (va_up (va_up (va_up (va_up (I 128) 19 v_at) 22 v_bad) 23 v_badPlace) 56 v_coded) 58 v_waits) 59 v_open)) 173 v_codes) 174 (upd v_wait (ix v_waits) x1))) zn1 ?_
          refine zb_aload_n E dX12_goesOn_292 0 rfl rfl ?_
          refine zb_dup E dX12_goesOn_293 rfl ?_
          refine zb_get E 128 (by decide) (zF_128 C.X) rfl zin12 58 (by decide) zw_1226 (v := .int v_waits) rfl dX12_goesOn_294 ?_
          refine zb_iconst E dX12_goesOn_297 (v := 1) rfl ?_
          refine zb_iadd E dX12_goesOn_298 ?_
          refine zb_put E 128 (by decide) (zF_128 C.X) rfl zin12 58 (by decide) zw_1226 tyX12 tyX12_ok nmX12 rfl rfl rfl (I2 := (va_up (va_up (va_up I 128 (va_up (va_up (va_up (va_up (va_up (va_up (I 128) 19 v_at) 22 v_bad) 23 v_badPlace) 56 v_coded) 58 (v_waits + 1)) 59 v_open)) 173 v_codes) 174 (upd v_wait (ix v_waits) x1))) (J2 := J) ((zset12_58 C.X (va_up (va_up (va_up (va_up (va_up (va_up (I 128) 19 v_at) 22 v_bad) 23 v_badPlace) 56 v_coded) 58 v_waits) 59 v_open) (J 128) (v_waits + 1)).trans (congrArg (fun g => zf12 C.X g (J 128)) (zn2 (by decide : (59 : Nat) ≠ 58)))) (by rw [zflen12]; decide) (fun j hj => ⟨zup_cg (zup_cg ((zup_n hj).trans (zup_n hj).symm)), rfl⟩) dX12_goesOn_299 ?_
          refine zb_iconst E dX12_goesOn_302 (v := 1) rfl ?_
          obtain ⟨rfl, rfl, rfl, rfl, rfl, rfl, rfl, rfl, rfl⟩ := zinj9 h
          exact zb_zret E hQ (ty := .boolean) rfl rfl ⟨Nat.zero_le _, Nat.zero_le _⟩ dX12_goesOn_303
        · have h := if_f h hc
          exact c_X12_goesOn_b275 N v_base e_v_base v_end e_v_end v_tape e_v_tape rr y_v_at y_v_bad y_v_badPlace y_v_coded y_v_open y_v_waits y_v_codes y_v_wait E hQ x1 v_at v_bad v_badPlace v_coded v_open v_waits v_codes v_wait self ih h
theorem c_X12_goesOn_b221 {C : zC} {I : Nat → Nat → Int32} {J : Nat → Nat → Int64} {Rr : Nat → Nat → Option Nat} {D : zD} (N : Nat) (v_base : Int32) (e_v_base : I 128 60 = v_base) (v_end : Int32) (e_v_end : I 128 20 = v_end) (v_tape : (Nat → Int32)) (e_v_tape : I 143 = v_tape) (rr : Int32) (y_v_at : Int32) (y_v_bad : Int32) (y_v_badPlace : Int32) (y_v_coded : Int32) (y_v_open : Int32) (y_v_waits : Int32) (y_v_codes : (Nat → Int32)) (y_v_wait : (Nat → Int32)) (E : zE C RX12 cX12_goesOn 2 (some .boolean) ({ frames := 3, cells := 0, slots := 0, locals := 62 } : Room)) (hQ : C.Q = zQi C ({ frames := 3, cells := 0, slots := 0, locals := 62 } : Room) rr ((va_up (va_up (va_up I 128 (va_up (va_up (va_up (va_up (va_up (va_up (I 128) 19 y_v_at) 22 y_v_bad) 23 y_v_badPlace) 56 y_v_coded) 58 y_v_waits) 59 y_v_open)) 173 y_v_codes) 174 y_v_wait), J, Rr, D)) (v_at : Int32) (v_bad : Int32) (v_badPlace : Int32) (v_coded : Int32) (v_open : Int32) (v_waits : Int32) (v_codes : (Nat → Int32)) (v_wait : (Nat → Int32)) (h : pM_goesOn_b221 N v_base v_end v_tape v_at v_bad v_badPlace v_coded v_open v_waits v_codes v_wait = some (rr, y_v_at, y_v_bad, y_v_badPlace, y_v_coded, y_v_open, y_v_waits, y_v_codes, y_v_wait)) : zB C (0, 0) 221 [(0, .ref (C.X.1 + 128))] [] ((va_up (va_up (va_up I 128 (va_up (va_up (va_up (va_up (va_up (va_up (I 128) 19 v_at) 22 v_bad) 23 v_badPlace) 56 v_coded) 58 v_waits) 59 v_open)) 173 v_codes) 174 v_wait), J, Rr, D) := by
  refine zb_aload_n E dX12_goesOn_221 0 rfl rfl ?_
  refine zb_get E 128 (by decide) (zF_128 C.X) rfl zin12 17 (by decide) zw_1185 (v := .ref (C.X.1 + 143)) rfl dX12_goesOn_222 ?_
  refine zb_aload_n E dX12_goesOn_225 0 rfl rfl ?_
  refine zb_get E 128 (by decide) (zF_128 C.X) rfl zin12 19 (by decide) zw_1187 (v := .int v_at) rfl dX12_goesOn_226 ?_
  refine zb_iconst E dX12_goesOn_229 (v := 1) rfl ?_
  refine zb_isub E dX12_goesOn_230 ?_
  obtain ⟨g16, h⟩ := gd_s h
  refine zb_iald E 143 (by decide) zF_143 (f := v_tape) (by exact e_v_tape) (ib_in g16) dX12_goesOn_231 ?_
  refine zb_bipush E dX12_goesOn_232 (v := 43) rfl ?_
  refine zb_icmp_ne E dX12_goesOn_234 (tgt := 241) rfl (fun hc => ?_) (fun hc => ?_)
  · have h := if_f h hc
    refine zb_iconst E dX12_goesOn_241 (v := 2) rfl ?_
    refine zb_istore_n E dX12_goesOn_242 rfl (by decide) (lv2 := [(1, .int 2), (0, .ref (C.X.1 + 128))]) rfl ?_
    refine zb_sub [1, 0] rfl ?_
    exact c_X12_goesOn_b243 N v_base e_v_base v_end e_v_end v_tape e_v_tape rr y_v_at y_v_bad y_v_badPlace y_v_coded y_v_open y_v_waits y_v_codes y_v_wait E hQ 2 v_at v_bad v_badPlace v_open v_wait _ v_coded v_waits v_codes h
  · have h := if_t h hc
    refine zb_iconst E dX12_goesOn_237 (v := 1) rfl ?_
    refine zb_goto E dX12_goesOn_238 (tgt := 242) rfl ?_
    refine zb_istore_n E dX12_goesOn_242 rfl (by decide) (lv2 := [(1, .int 1), (0, .ref (C.X.1 + 128))]) rfl ?_
    refine zb_sub [1, 0] rfl ?_
    exact c_X12_goesOn_b243 N v_base e_v_base v_end e_v_end v_tape e_v_tape rr y_v_at y_v_bad y_v_badPlace y_v_coded y_v_open y_v_waits y_v_codes y_v_wait E hQ 1 v_at v_bad v_badPlace v_open v_wait _ v_coded v_waits v_codes h
theorem c_X12_goesOn_b322 {C : zC} {I : Nat → Nat → Int32} {J : Nat → Nat → Int64} {Rr : Nat → Nat → Option Nat} {D : zD} (N : Nat) (v_base : Int32) (e_v_base : I 128 60 = v_base) (v_end : Int32) (e_v_end : I 128 20 = v_end) (v_tape : (Nat → Int32)) (e_v_tape : I 143 = v_tape) (rr : Int32) (y_v_at : Int32) (y_v_bad : Int32) (y_v_badPlace : Int32) (y_v_coded : Int32) (y_v_open : Int32) (y_v_waits : Int32) (y_v_codes : (Nat → Int32)) (y_v_wait : (Nat → Int32)) (E : zE C RX12 cX12_goesOn 2 (some .boolean) ({ frames := 3, cells := 0, slots := 0, locals := 62 } : Room)) (hQ : C.Q = zQi C ({ frames := 3, cells := 0, slots := 0, locals := 62 } : Room) rr ((va_up (va_up (va_up I 128 (va_up (va_up (va_up (va_up (va_up (va_up (I 128) 19 y_v_at) 22 y_v_bad) 23 y_v_badPlace) 56 y_v_coded) 58 y_v_waits) 59 y_v_open)) 173 y_v_codes) 174 y_v_wait), J, Rr, D)) (v_at : Int32) (v_bad : Int32) (v_badPlace : Int32) (v_coded : Int32) (v_open : Int32) (v_waits : Int32) (v_codes : (Nat → Int32)) (v_wait : (Nat → Int32)) (h : pM_goesOn_b322 N v_base v_end v_tape v_at v_bad v_badPlace v_coded v_open v_waits v_codes v_wait = some (rr, y_v_at, y_v_bad, y_v_badPlace, y_v_coded, y_v_open, y_v_waits, y_v_codes, y_v_wait)) : zB C (0, 0) 322 [(0, .ref (C.X.1 + 128))] [] ((va_up (va_up (va_up I 128 (va_up (va_up (va_up (va_up (va_up (va_up (I 128) 19 v_at) 22 v_bad) 23 v_badPlace) 56 v_coded) 58 v_waits) 59 v_open)) 173 v_codes) 174 v_wait), J, Rr, D) := by
  refine zb_aload_n E dX12_goesOn_322 0 rfl rfl ?_
  refine zb_bipush E dX12_goesOn_323 (v := 44) rfl ?_
  obtain ⟨v_at_c17, v_bad_c17, v_badPlace_c17, hc_325, h⟩ := bd3_s h
  refine zb_cVv E [.int 44] 128 zy_X12_asksSign zw_1608 (by decide) (zF_128 _ _ _ _) rfl (c_X12_asksSign (va_up (va_up (va_up (va_up (va_up (va_up (I 128) 19 v_at) 22 v_bad) 23 v_badPlace) 56 v_coded) 58 v_waits) 59 v_open) rfl v_end (by exact e_v_end) v_tape (by exact e_v_tape) v_at rfl v_bad rfl v_badPlace rfl hc_325) (by decide) rfl rfl (by first | decide | simp [Value.category]) dX12_goesOn_325 (cs2 := (0, 0)) rfl ?_
  refine zb_S (S2 := ((va_up (va_up (va_up I 128 (va_up (va_up (va_up (va_up (va_up (va_up (I 128) 19 v_at_c17) 22 v_bad_c17) 23 v_badPlace_c17) 56 v_coded) 58 v_waits) 59 v_open)) 173 v_codes) 174 v_wait), J, Rr, D)) (zS_eq ((zcgV ((zcgF ((zcgF (zn6 (by decide : (59 : Nat) ≠ 19) (by decide : (58 : Nat) ≠ 19) (by decide : (56 : Nat) ≠ 19) (by decide : (23 : Nat) ≠ 19) (by decide : (22 : Nat) ≠ 19))).trans (zn5 (by decide : (59 : Nat) ≠ 22) (by decide : (58 : Nat) ≠ 22) (by decide : (56 : Nat) ≠ 22) (by decide : (23 : Nat) ≠ 22)))).trans (zn4 (by decide : (59 : Nat) ≠ 23) (by decide : (58 : Nat) ≠ 23) (by decide : (56 : Nat) ≠ 23)))).trans (zn3 (by decide : (174 : Nat) ≠ 128) (by decide : (173 : Nat) ≠ 128))) rfl) ?_
  refine zb_aload_n E dX12_goesOn_328 0 rfl rfl ?_
  refine zb_get E 128 (by decide) (zF_128 C.X) rfl zin12 22 (by decide) zw_1190 (v := .int v_bad_c17) rfl dX12_goesOn_329 ?_
  refine zb_if_eq E dX12_goesOn_332 (tgt := 337) rfl (fun hc => ?_) (fun hc => ?_)
  · have h := if_t h hc
    refine zb_aload_n E dX12_goesOn_337 0 rfl rfl ?_
    obtain ⟨v_coded_c18, v_waits_c18, v_codes_c18, hc_338, h⟩ := bd3_s h
    refine zb_cVv E [] 128 zy_X12_dropsToMark zw_1644 (by decide) (zF_128 _ _ _ _) rfl (c_X12_dropsToMark (va_up (va_up (va_up (va_up (va_up (va_up (I 128) 19 v_at_c17) 22 v_bad_c17) 23 v_badPlace_c17) 56 v_coded) 58 v_waits) 59 v_open) rfl v_base (by exact e_v_base) v_wait rfl v_coded rfl v_waits rfl v_codes rfl hc_338) (by decide) rfl rfl (by first | decide | simp [Value.category]) dX12_goesOn_338 (cs2 := (0, 0)) rfl ?_
    refine zb_S (S2 := ((va_up (va_up (va_up I 128 (va_up (va_up (va_up (va_up (va_up (va_up (I 128) 19 v_at_c17) 22 v_bad_c17) 23 v_badPlace_c17) 56 v_coded_c18) 58 v_waits_c18) 59 v_open)) 173 v_codes_c18) 174 v_wait), J, Rr, D)) (zS_eq ((zcgF ((zcgV ((zcgF (zn3 (by decide : (59 : Nat) ≠ 56) (by decide : (58 : Nat) ≠ 56))).trans (zn2 (by decide : (59 : Nat) ≠ 58)))).trans (zn3 (by decide : (174 : Nat) ≠ 128) (by decide : (173 : Nat) ≠ 128)))).trans (zn2 (by decide : (174 : Nat) ≠ 173))) rfl) ?_
    refine zb_aload_n E dX12_goesOn_341 0 rfl rfl ?_
    refine zb_get E 128 (by decide) (zF_128 C.X) rfl zin12 57 (by decide) zw_1225 (v := .ref (C.X.1 + 174)) rfl dX12_goesOn_342 ?_
    refine zb_aload_n E dX12_goesOn_345 0 rfl rfl ?_
    refine zb_get E 128 (by decide) (zF_128 C.X) rfl zin12 58 (by decide) zw_1226 (v := .int v_waits_c18) rfl dX12_goesOn_346 ?_
    refine zb_iconst E dX12_goesOn_349 (v := 1) rfl ?_
    refine zb_isub E dX12_goesOn_350 ?_
    refine zb_dup2_11 E dX12_goesOn_351 rfl rfl ?_
    obtain ⟨g19, h⟩ := gd_s h
    refine zb_iald E 174 (by decide) zF_174 (f := v_wait) rfl (ib_in g19) dX12_goesOn_352 ?_
    refine zb_iconst E dX12_goesOn_353 (v := 2) rfl ?_
    refine zb_iadd E dX12_goesOn_354 ?_
    refine zb_iast E 174 (by decide) zF_174 (f := v_wait) rfl (ib_in g19) dX12_goesOn_355 (I2 := (va_up (va_up (va_up I 128 (va_up (va_up (va_up (va_up (va_up (va_up (I 128) 19 v_at_c17) 22 v_bad_c17) 23 v_badPlace_c17) 56 v_coded_c18) 58 v_waits_c18) 59 v_open)) 173 v_codes_c18) 174 (upd v_wait (ix (v_waits_c18 - 1)) ((v_wait (ix (v_waits_c18 - 1))) + 2)))) zn1 ?_
    refine zb_iconst E dX12_goesOn_356 (v := 1) rfl ?_
    obtain ⟨rfl, rfl, rfl, rfl, rfl, rfl, rfl, rfl, rfl⟩ := zinj9 h
    exact zb_zret E hQ (ty := .boolean) rfl rfl ⟨Nat.zero_le _, Nat.zero_le _⟩ dX12_goesOn_357
  · have h := if_f h hc
    refine zb_iconst E dX12_goesOn_335 (v := 0) rfl ?_
    obtain ⟨rfl, rfl, rfl, rfl, rfl, rfl, rfl, rfl, rfl⟩ := zinj9 h
    exact zb_zret E hQ (ty := .boolean) rfl rfl ⟨Nat.zero_le _, Nat.zero_le _⟩ dX12_goesOn_336
theorem c_X12_goesOn_b118 {C : zC} {I : Nat → Nat → Int32} {J : Nat → Nat → Int64} {Rr : Nat → Nat → Option Nat} {D : zD} (N : Nat) (v_base : Int32) (e_v_base : I 128 60 = v_base) (v_end : Int32) (e_v_end : I 128 20 = v_end) (v_tape : (Nat → Int32)) (e_v_tape : I 143 = v_tape) (rr : Int32) (y_v_at : Int32) (y_v_bad : Int32) (y_v_badPlace : Int32) (y_v_coded : Int32) (y_v_open : Int32) (y_v_waits : Int32) (y_v_codes : (Nat → Int32)) (y_v_wait : (Nat → Int32)) (E : zE C RX12 cX12_goesOn 2 (some .boolean) ({ frames := 3, cells := 0, slots := 0, locals := 62 } : Room)) (hQ : C.Q = zQi C ({ frames := 3, cells := 0, slots := 0, locals := 62 } : Room) rr ((va_up (va_up (va_up I 128 (va_up (va_up (va_up (va_up (va_up (va_up (I 128) 19 y_v_at) 22 y_v_bad) 23 y_v_badPlace) 56 y_v_coded) 58 y_v_waits) 59 y_v_open)) 173 y_v_codes) 174 y_v_wait), J, Rr, D)) (v_at : Int32) (v_bad : Int32) (v_badPlace : Int32) (v_coded : Int32) (v_open : Int32) (v_waits : Int32) (v_codes : (Nat → Int32)) (v_wait : (Nat → Int32)) (h : pM_goesOn_b118 N v_base v_end v_tape v_at v_bad v_badPlace v_coded v_open v_waits v_codes v_wait = some (rr, y_v_at, y_v_bad, y_v_badPlace, y_v_coded, y_v_open, y_v_waits, y_v_codes, y_v_wait)) : zB C (0, 0) 118 [(0, .ref (C.X.1 + 128))] [] ((va_up (va_up (va_up I 128 (va_up (va_up (va_up (va_up (va_up (va_up (I 128) 19 v_at) 22 v_bad) 23 v_badPlace) 56 v_coded) 58 v_waits) 59 v_open)) 173 v_codes) 174 v_wait), J, Rr, D) := by
  refine zb_aload_n E dX12_goesOn_118 0 rfl rfl ?_
  refine zb_bipush E dX12_goesOn_119 (v := 42) rfl ?_
  obtain ⟨rc5, v_at_c5, hc_121, h⟩ := bd2_s h
  refine zb_cVi E [.int 42] 128 zy_X12_takesSign zw_1612 (by decide) (zF_128 _ _ _ _) rfl (c_X12_takesSign (va_up (va_up (va_up (va_up (va_up (va_up (I 128) 19 v_at) 22 v_bad) 23 v_badPlace) 56 v_coded) 58 v_waits) 59 v_open) rfl v_bad rfl v_end (by exact e_v_end) v_tape (by exact e_v_tape) v_at rfl hc_121) (by decide) rfl rfl (by first | decide | simp [Value.category]) dX12_goesOn_121 (cs2 := (0, 0)) rfl ?_
  refine zb_S (S2 := ((va_up (va_up (va_up I 128 (va_up (va_up (va_up (va_up (va_up (va_up (I 128) 19 v_at_c5) 22 v_bad) 23 v_badPlace) 56 v_coded) 58 v_waits) 59 v_open)) 173 v_codes) 174 v_wait), J, Rr, D)) (zS_eq ((zcgV (zn6 (by decide : (59 : Nat) ≠ 19) (by decide : (58 : Nat) ≠ 19) (by decide : (56 : Nat) ≠ 19) (by decide : (23 : Nat) ≠ 19) (by decide : (22 : Nat) ≠ 19))).trans (zn3 (by decide : (174 : Nat) ≠ 128) (by decide : (173 : Nat) ≠ 128))) rfl) ?_
  refine zb_if_ne E dX12_goesOn_124 (tgt := 136) rfl (fun hc => ?_) (fun hc => ?_)
  · have h := if_f h hc
    exact c_X12_goesOn_b136 N v_base e_v_base v_end e_v_end v_tape e_v_tape rr y_v_at y_v_bad y_v_badPlace y_v_coded y_v_open y_v_waits y_v_codes y_v_wait E hQ v_at_c5 v_bad v_badPlace v_coded v_open v_waits v_codes v_wait h
  · have h := if_t h hc
    refine zb_aload_n E dX12_goesOn_127 0 rfl rfl ?_
    refine zb_bipush E dX12_goesOn_128 (v := 47) rfl ?_
    obtain ⟨rc6, v_at_c6, hc_130, h⟩ := bd2_s h
    refine zb_cVi E [.int 47] 128 zy_X12_takesSign zw_1612 (by decide) (zF_128 _ _ _ _) rfl (c_X12_takesSign (va_up (va_up (va_up (va_up (va_up (va_up (I 128) 19 v_at_c5) 22 v_bad) 23 v_badPlace) 56 v_coded) 58 v_waits) 59 v_open) rfl v_bad rfl v_end (by exact e_v_end) v_tape (by exact e_v_tape) v_at_c5 rfl hc_130) (by decide) rfl rfl (by first | decide | simp [Value.category]) dX12_goesOn_130 (cs2 := (0, 0)) rfl ?_
    refine zb_S (S2 := ((va_up (va_up (va_up I 128 (va_up (va_up (va_up (va_up (va_up (va_up (I 128) 19 v_at_c6) 22 v_bad) 23 v_badPlace) 56 v_coded) 58 v_waits) 59 v_open)) 173 v_codes) 174 v_wait), J, Rr, D)) (zS_eq ((zcgV (zn6 (by decide : (59 : Nat) ≠ 19) (by decide : (58 : Nat) ≠ 19) (by decide : (56 : Nat) ≠ 19) (by decide : (23 : Nat) ≠ 19) (by decide : (22 : Nat) ≠ 19))).trans (zn3 (by decide : (174 : Nat) ≠ 128) (by decide : (173 : Nat) ≠ 128))) rfl) ?_
    refine zb_if_eq E dX12_goesOn_133 (tgt := 203) rfl (fun hc => ?_) (fun hc => ?_)
    · have h := if_t h hc
      refine zb_aload_n E dX12_goesOn_203 0 rfl rfl ?_
      refine zb_bipush E dX12_goesOn_204 (v := 43) rfl ?_
      obtain ⟨rc7, v_at_c7, hc_206, h⟩ := bd2_s h
      refine zb_cVi E [.int 43] 128 zy_X12_takesSign zw_1612 (by decide) (zF_128 _ _ _ _) rfl (c_X12_takesSign (va_up (va_up (va_up (va_up (va_up (va_up (I 128) 19 v_at_c6) 22 v_bad) 23 v_badPlace) 56 v_coded) 58 v_waits) 59 v_open) rfl v_bad rfl v_end (by exact e_v_end) v_tape (by exact e_v_tape) v_at_c6 rfl hc_206) (by decide) rfl rfl (by first | decide | simp [Value.category]) dX12_goesOn_206 (cs2 := (0, 0)) rfl ?_
      refine zb_S (S2 := ((va_up (va_up (va_up I 128 (va_up (va_up (va_up (va_up (va_up (va_up (I 128) 19 v_at_c7) 22 v_bad) 23 v_badPlace) 56 v_coded) 58 v_waits) 59 v_open)) 173 v_codes) 174 v_wait), J, Rr, D)) (zS_eq ((zcgV (zn6 (by decide : (59 : Nat) ≠ 19) (by decide : (58 : Nat) ≠ 19) (by decide : (56 : Nat) ≠ 19) (by decide : (23 : Nat) ≠ 19) (by decide : (22 : Nat) ≠ 19))).trans (zn3 (by decide : (174 : Nat) ≠ 128) (by decide : (173 : Nat) ≠ 128))) rfl) ?_
      refine zb_if_ne E dX12_goesOn_209 (tgt := 221) rfl (fun hc => ?_) (fun hc => ?_)
      · have h := if_f h hc
        exact c_X12_goesOn_b221 N v_base e_v_base v_end e_v_end v_tape e_v_tape rr y_v_at y_v_bad y_v_badPlace y_v_coded y_v_open y_v_waits y_v_codes y_v_wait E hQ v_at_c7 v_bad v_badPlace v_coded v_open v_waits v_codes v_wait h
      · have h := if_t h hc
        refine zb_aload_n E dX12_goesOn_212 0 rfl rfl ?_
        refine zb_bipush E dX12_goesOn_213 (v := 45) rfl ?_
        obtain ⟨rc8, v_at_c8, hc_215, h⟩ := bd2_s h
        refine zb_cVi E [.int 45] 128 zy_X12_takesSign zw_1612 (by decide) (zF_128 _ _ _ _) rfl (c_X12_takesSign (va_up (va_up (va_up (va_up (va_up (va_up (I 128) 19 v_at_c7) 22 v_bad) 23 v_badPlace) 56 v_coded) 58 v_waits) 59 v_open) rfl v_bad rfl v_end (by exact e_v_end) v_tape (by exact e_v_tape) v_at_c7 rfl hc_215) (by decide) rfl rfl (by first | decide | simp [Value.category]) dX12_goesOn_215 (cs2 := (0, 0)) rfl ?_
        refine zb_S (S2 := ((va_up (va_up (va_up I 128 (va_up (va_up (va_up (va_up (va_up (va_up (I 128) 19 v_at_c8) 22 v_bad) 23 v_badPlace) 56 v_coded) 58 v_waits) 59 v_open)) 173 v_codes) 174 v_wait), J, Rr, D)) (zS_eq ((zcgV (zn6 (by decide : (59 : Nat) ≠ 19) (by decide : (58 : Nat) ≠ 19) (by decide : (56 : Nat) ≠ 19) (by decide : (23 : Nat) ≠ 19) (by decide : (22 : Nat) ≠ 19))).trans (zn3 (by decide : (174 : Nat) ≠ 128) (by decide : (173 : Nat) ≠ 128))) rfl) ?_
        refine zb_if_eq E dX12_goesOn_218 (tgt := 304) rfl (fun hc => ?_) (fun hc => ?_)
        · have h := if_t h hc
          refine zb_aload_n E dX12_goesOn_304 0 rfl rfl ?_
          obtain ⟨rc9, hc_305, h⟩ := bd1_s h
          refine zb_cVi E [] 128 zy_X12_mark zw_1636 (by decide) (zF_128 _ _ _ _) rfl (c_X12_mark v_base (by exact e_v_base) v_waits rfl v_wait rfl hc_305) (by decide) rfl rfl (by first | decide | simp [Value.category]) dX12_goesOn_305 (cs2 := (0, 0)) rfl ?_
          refine zb_bipush E dX12_goesOn_308 (v := 21) rfl ?_
          refine zb_icmp_eq E dX12_goesOn_310 (tgt := 322) rfl (fun hc => ?_) (fun hc => ?_)
          · have h := if_t h hc
            exact c_X12_goesOn_b322 N v_base e_v_base v_end e_v_end v_tape e_v_tape rr y_v_at y_v_bad y_v_badPlace y_v_coded y_v_open y_v_waits y_v_codes y_v_wait E hQ v_at_c8 v_bad v_badPlace v_coded v_open v_waits v_codes v_wait h
          · have h := if_f h hc
            refine zb_aload_n E dX12_goesOn_313 0 rfl rfl ?_
            obtain ⟨rc10, hc_314, h⟩ := bd1_s h
            refine zb_cVi E [] 128 zy_X12_mark zw_1636 (by decide) (zF_128 _ _ _ _) rfl (c_X12_mark v_base (by exact e_v_base) v_waits rfl v_wait rfl hc_314) (by decide) rfl rfl (by first | decide | simp [Value.category]) dX12_goesOn_314 (cs2 := (0, 0)) rfl ?_
            refine zb_bipush E dX12_goesOn_317 (v := 22) rfl ?_
            refine zb_icmp_ne E dX12_goesOn_319 (tgt := 358) rfl (fun hc => ?_) (fun hc => ?_)
            · have h := if_f h hc
              refine zb_aload_n E dX12_goesOn_358 0 rfl rfl ?_
              obtain ⟨rc11, hc_359, h⟩ := bd1_s h
              refine zb_cVi E [] 128 zy_X12_mark zw_1636 (by decide) (zF_128 _ _ _ _) rfl (c_X12_mark v_base (by exact e_v_base) v_waits rfl v_wait rfl hc_359) (by decide) rfl rfl (by first | decide | simp [Value.category]) dX12_goesOn_359 (cs2 := (0, 0)) rfl ?_
              refine zb_iconst E dX12_goesOn_362 (v := (-1)) rfl ?_
              refine zb_icmp_eq E dX12_goesOn_363 (tgt := 382) rfl (fun hc => ?_) (fun hc => ?_)
              · have h := if_t h hc
                refine zb_iconst E dX12_goesOn_382 (v := 0) rfl ?_
                obtain ⟨rfl, rfl, rfl, rfl, rfl, rfl, rfl, rfl, rfl⟩ := zinj9 h
                exact zb_zret E hQ (ty := .boolean) rfl rfl ⟨Nat.zero_le _, Nat.zero_le _⟩ dX12_goesOn_383
              · have h := if_f h hc
                refine zb_aload_n E dX12_goesOn_366 0 rfl rfl ?_
                refine zb_get E 128 (by decide) (zF_128 C.X) rfl zin12 22 (by decide) zw_1190 (v := .int v_bad) rfl dX12_goesOn_367 ?_
                refine zb_if_ne E dX12_goesOn_370 (tgt := 382) rfl (fun hc => ?_) (fun hc => ?_)
                · have h := if_f h hc
                  refine zb_iconst E dX12_goesOn_382 (v := 0) rfl ?_
                  obtain ⟨rfl, rfl, rfl, rfl, rfl, rfl, rfl, rfl, rfl⟩ := zinj9 h
                  exact zb_zret E hQ (ty := .boolean) rfl rfl ⟨Nat.zero_le _, Nat.zero_le _⟩ dX12_goesOn_383
                · have h := if_t h hc
                  refine zb_aload_n E dX12_goesOn_373 0 rfl rfl ?_
                  refine zb_iconst E dX12_goesOn_374 (v := 1) rfl ?_
                  refine zb_aload_n E dX12_goesOn_375 0 rfl rfl ?_
                  refine zb_get E 128 (by decide) (zF_128 C.X) rfl zin12 19 (by decide) zw_1187 (v := .int v_at_c8) rfl dX12_goesOn_376 ?_
                  obtain ⟨v_bad_c12, v_badPlace_c12, hc_379, h⟩ := bd2_s h
                  refine zb_cVv E [.int 1, .int v_at_c8] 128 zy_X12_fail zw_1577 (by decide) (zF_128 _ _ _ _) rfl (c_X12_fail (va_up (va_up (va_up (va_up (va_up (va_up (I 128) 19 v_at_c8) 22 v_bad) 23 v_badPlace) 56 v_coded) 58 v_waits) 59 v_open) rfl v_bad rfl v_badPlace rfl hc_379) (by decide) rfl rfl (by first | decide | simp [Value.category]) dX12_goesOn_379 (cs2 := (0, 0)) rfl ?_
                  refine zb_S (S2 := ((va_up (va_up (va_up I 128 (va_up (va_up (va_up (va_up (va_up (va_up (I 128) 19 v_at_c8) 22 v_bad_c12) 23 v_badPlace_c12) 56 v_coded) 58 v_waits) 59 v_open)) 173 v_codes) 174 v_wait), J, Rr, D)) (zS_eq ((zcgV ((zcgF (zn5 (by decide : (59 : Nat) ≠ 22) (by decide : (58 : Nat) ≠ 22) (by decide : (56 : Nat) ≠ 22) (by decide : (23 : Nat) ≠ 22))).trans (zn4 (by decide : (59 : Nat) ≠ 23) (by decide : (58 : Nat) ≠ 23) (by decide : (56 : Nat) ≠ 23)))).trans (zn3 (by decide : (174 : Nat) ≠ 128) (by decide : (173 : Nat) ≠ 128))) rfl) ?_
                  refine zb_iconst E dX12_goesOn_382 (v := 0) rfl ?_
                  obtain ⟨rfl, rfl, rfl, rfl, rfl, rfl, rfl, rfl, rfl⟩ := zinj9 h
                  exact zb_zret E hQ (ty := .boolean) rfl rfl ⟨Nat.zero_le _, Nat.zero_le _⟩ dX12_goesOn_383
            · have h := if_t h hc
              exact c_X12_goesOn_b322 N v_base e_v_base v_end e_v_end v_tape e_v_tape rr y_v_at y_v_bad y_v_badPlace y_v_coded y_v_open y_v_waits y_v_codes y_v_wait E hQ v_at_c8 v_bad v_badPlace v_coded v_open v_waits v_codes v_wait h
        · have h := if_f h hc
          exact c_X12_goesOn_b221 N v_base e_v_base v_end e_v_end v_tape e_v_tape rr y_v_at y_v_bad y_v_badPlace y_v_coded y_v_open y_v_waits y_v_codes y_v_wait E hQ v_at_c8 v_bad v_badPlace v_coded v_open v_waits v_codes v_wait h
    · have h := if_f h hc
      exact c_X12_goesOn_b136 N v_base e_v_base v_end e_v_end v_tape e_v_tape rr y_v_at y_v_bad y_v_badPlace y_v_coded y_v_open y_v_waits y_v_codes y_v_wait E hQ v_at_c6 v_bad v_badPlace v_coded v_open v_waits v_codes v_wait h
theorem c_X12_goesOn_0 {C : zC} {I : Nat → Nat → Int32} {J : Nat → Nat → Int64} {Rr : Nat → Nat → Option Nat} {D : zD} (N : Nat) (v_base : Int32) (e_v_base : I 128 60 = v_base) (v_end : Int32) (e_v_end : I 128 20 = v_end) (v_tape : (Nat → Int32)) (e_v_tape : I 143 = v_tape) (rr : Int32) (y_v_at : Int32) (y_v_bad : Int32) (y_v_badPlace : Int32) (y_v_coded : Int32) (y_v_open : Int32) (y_v_waits : Int32) (y_v_codes : (Nat → Int32)) (y_v_wait : (Nat → Int32)) (E : zE C RX12 cX12_goesOn 2 (some .boolean) ({ frames := 3, cells := 0, slots := 0, locals := 62 } : Room)) (hQ : C.Q = zQi C ({ frames := 3, cells := 0, slots := 0, locals := 62 } : Room) rr ((va_up (va_up (va_up I 128 (va_up (va_up (va_up (va_up (va_up (va_up (I 128) 19 y_v_at) 22 y_v_bad) 23 y_v_badPlace) 56 y_v_coded) 58 y_v_waits) 59 y_v_open)) 173 y_v_codes) 174 y_v_wait), J, Rr, D)) (v_at : Int32) (v_bad : Int32) (v_badPlace : Int32) (v_coded : Int32) (v_open : Int32) (v_waits : Int32) (v_codes : (Nat → Int32)) (v_wait : (Nat → Int32)) (h : pM_goesOn N v_at v_bad v_badPlace v_base v_coded v_end v_open v_waits v_codes v_tape v_wait = some (rr, y_v_at, y_v_bad, y_v_badPlace, y_v_coded, y_v_open, y_v_waits, y_v_codes, y_v_wait)) : zB C (0, 0) 0 [(0, .ref (C.X.1 + 128))] [] ((va_up (va_up (va_up I 128 (va_up (va_up (va_up (va_up (va_up (va_up (I 128) 19 v_at) 22 v_bad) 23 v_badPlace) 56 v_coded) 58 v_waits) 59 v_open)) 173 v_codes) 174 v_wait), J, Rr, D) := by
  exact c_X12_goesOn_b0 N v_base e_v_base v_end e_v_end v_tape e_v_tape rr y_v_at y_v_bad y_v_badPlace y_v_coded y_v_open y_v_waits y_v_codes y_v_wait E hQ v_bad v_badPlace v_wait _ (fun v_at_z1 v_coded_z2 v_open_z3 v_waits_z4 v_codes_z5 h => c_X12_goesOn_b118 N v_base e_v_base v_end e_v_end v_tape e_v_tape rr y_v_at y_v_bad y_v_badPlace y_v_coded y_v_open y_v_waits y_v_codes y_v_wait E hQ v_at_z1 v_bad v_badPlace v_coded_z2 v_open_z3 v_waits_z4 v_codes_z5 v_wait h) _ v_at v_coded v_open v_waits v_codes h
theorem c_X12_goesOn {l : Launch} {X : zX} {I : Nat → Nat → Int32} {J : Nat → Nat → Int64} {Rr : Nat → Nat → Option Nat} {D : zD} {N : Nat} (oI128 : Nat → Int32) (eoI128 : I 128 = oI128) (v_base : Int32) (e_v_base : I 128 60 = v_base) (v_end : Int32) (e_v_end : I 128 20 = v_end) (v_tape : (Nat → Int32)) (e_v_tape : I 143 = v_tape) (v_at : Int32) (e_v_at : I 128 19 = v_at) (v_bad : Int32) (e_v_bad : I 128 22 = v_bad) (v_badPlace : Int32) (e_v_badPlace : I 128 23 = v_badPlace) (v_coded : Int32) (e_v_coded : I 128 56 = v_coded) (v_open : Int32) (e_v_open : I 128 59 = v_open) (v_waits : Int32) (e_v_waits : I 128 58 = v_waits) (v_codes : (Nat → Int32)) (e_v_codes : I 173 = v_codes) (v_wait : (Nat → Int32)) (e_v_wait : I 174 = v_wait) {rr : Int32} {y_v_at : Int32} {y_v_bad : Int32} {y_v_badPlace : Int32} {y_v_coded : Int32} {y_v_open : Int32} {y_v_waits : Int32} {y_v_codes : (Nat → Int32)} {y_v_wait : (Nat → Int32)} (h : pM_goesOn N v_at v_bad v_badPlace v_base v_coded v_end v_open v_waits v_codes v_tape v_wait = some (rr, y_v_at, y_v_bad, y_v_badPlace, y_v_coded, y_v_open, y_v_waits, y_v_codes, y_v_wait)) : zMi l yX12_goesOn cX12_goesOn 2 (some .boolean) ({ frames := 3, cells := 0, slots := 0, locals := 62 } : Room) X [.ref (X.1 + 128)] (I, J, Rr, D) rr ((va_up (va_up (va_up I 128 (va_up (va_up (va_up (va_up (va_up (va_up oI128 19 y_v_at) 22 y_v_bad) 23 y_v_badPlace) 56 y_v_coded) 58 y_v_waits) 59 y_v_open)) 173 y_v_codes) 174 y_v_wait), J, Rr, D) := by
  subst eoI128
  refine zMi.of (by decide) (Nat.le_of_ble_eq_true rfl) (fun C E hl hX hQ => ?_)
  subst hl
  subst hX
  have eI0 : (va_up (va_up (va_up I 128 (va_up (va_up (va_up (va_up (va_up (va_up (I 128) 19 v_at) 22 v_bad) 23 v_badPlace) 56 v_coded) 58 v_waits) 59 v_open)) 173 v_codes) 174 v_wait) = I := by rw [zup_idE e_v_at, zup_idE e_v_bad, zup_idE e_v_badPlace, zup_idE e_v_coded, zup_idE e_v_waits, zup_idE e_v_open, zup_id, zup_idE e_v_codes, zup_idE e_v_wait]
  have eJ0 : J = J := rfl
  refine zb_S (S2 := ((va_up (va_up (va_up I 128 (va_up (va_up (va_up (va_up (va_up (va_up (I 128) 19 v_at) 22 v_bad) 23 v_badPlace) 56 v_coded) 58 v_waits) 59 v_open)) 173 v_codes) 174 v_wait), J, Rr, D)) (zS_eq eI0.symm eJ0.symm) ?_
  exact c_X12_goesOn_0 N v_base e_v_base v_end e_v_end v_tape e_v_tape rr y_v_at y_v_bad y_v_badPlace y_v_coded y_v_open y_v_waits y_v_codes y_v_wait E hQ v_at v_bad v_badPlace v_coded v_open v_waits v_codes v_wait h
-- ChequeredClothModel.sums
theorem dX12_sums_0 : decode cX12_sums 0 = .ok (.aload_n 0, 1) := by decide +kernel
theorem dX12_sums_1 : decode cX12_sums 1 = .ok (.getfield 326, 3) := by decide +kernel
theorem dX12_sums_4 : decode cX12_sums 4 = .ok (.istore_n 1, 1) := by decide +kernel
theorem dX12_sums_5 : decode cX12_sums 5 = .ok (.aload_n 0, 1) := by decide +kernel
theorem dX12_sums_6 : decode cX12_sums 6 = .ok (.aload_n 0, 1) := by decide +kernel
theorem dX12_sums_7 : decode cX12_sums 7 = .ok (.getfield 320, 3) := by decide +kernel
theorem dX12_sums_10 : decode cX12_sums 10 = .ok (.putfield 326, 3) := by decide +kernel
theorem dX12_sums_13 : decode cX12_sums 13 = .ok (.iconst 1, 1) := by decide +kernel
theorem dX12_sums_14 : decode cX12_sums 14 = .ok (.istore_n 2, 1) := by decide +kernel
theorem dX12_sums_15 : decode cX12_sums 15 = .ok (.iload_n 2, 1) := by decide +kernel
theorem dX12_sums_16 : decode cX12_sums 16 = .ok (.ifCond .eq 37, 3) := by decide +kernel
theorem dX12_sums_19 : decode cX12_sums 19 = .ok (.aload_n 0, 1) := by decide +kernel
theorem dX12_sums_20 : decode cX12_sums 20 = .ok (.getfield 275, 3) := by decide +kernel
theorem dX12_sums_23 : decode cX12_sums 23 = .ok (.ifCond .ne 30, 3) := by decide +kernel
theorem dX12_sums_26 : decode cX12_sums 26 = .ok (.aload_n 0, 1) := by decide +kernel
theorem dX12_sums_27 : decode cX12_sums 27 = .ok (.invokevirtual 361, 3) := by decide +kernel
theorem dX12_sums_30 : decode cX12_sums 30 = .ok (.aload_n 0, 1) := by decide +kernel
theorem dX12_sums_31 : decode cX12_sums 31 = .ok (.getfield 275, 3) := by decide +kernel
theorem dX12_sums_34 : decode cX12_sums 34 = .ok (.ifCond .ne 14, 3) := by decide +kernel
theorem dX12_sums_37 : decode cX12_sums 37 = .ok (.aload_n 0, 1) := by decide +kernel
theorem dX12_sums_38 : decode cX12_sums 38 = .ok (.invokevirtual 364, 3) := by decide +kernel
theorem dX12_sums_41 : decode cX12_sums 41 = .ok (.ifCond .eq 7, 3) := by decide +kernel
theorem dX12_sums_44 : decode cX12_sums 44 = .ok (.iconst 1, 1) := by decide +kernel
theorem dX12_sums_45 : decode cX12_sums 45 = .ok (.goto 4, 3) := by decide +kernel
theorem dX12_sums_48 : decode cX12_sums 48 = .ok (.iconst 0, 1) := by decide +kernel
theorem dX12_sums_49 : decode cX12_sums 49 = .ok (.istore_n 2, 1) := by decide +kernel
theorem dX12_sums_50 : decode cX12_sums 50 = .ok (.goto (-35), 3) := by decide +kernel
theorem dX12_sums_53 : decode cX12_sums 53 = .ok (.aload_n 0, 1) := by decide +kernel
theorem dX12_sums_54 : decode cX12_sums 54 = .ok (.getfield 275, 3) := by decide +kernel
theorem dX12_sums_57 : decode cX12_sums 57 = .ok (.ifCond .ne 21, 3) := by decide +kernel
theorem dX12_sums_60 : decode cX12_sums 60 = .ok (.aload_n 0, 1) := by decide +kernel
theorem dX12_sums_61 : decode cX12_sums 61 = .ok (.getfield 320, 3) := by decide +kernel
theorem dX12_sums_64 : decode cX12_sums 64 = .ok (.aload_n 0, 1) := by decide +kernel
theorem dX12_sums_65 : decode cX12_sums 65 = .ok (.getfield 326, 3) := by decide +kernel
theorem dX12_sums_68 : decode cX12_sums 68 = .ok (.if_icmp .le 10, 3) := by decide +kernel
theorem dX12_sums_71 : decode cX12_sums 71 = .ok (.aload_n 0, 1) := by decide +kernel
theorem dX12_sums_72 : decode cX12_sums 72 = .ok (.invokevirtual 332, 3) := by decide +kernel
theorem dX12_sums_75 : decode cX12_sums 75 = .ok (.goto (-22), 3) := by decide +kernel
theorem dX12_sums_78 : decode cX12_sums 78 = .ok (.aload_n 0, 1) := by decide +kernel
theorem dX12_sums_79 : decode cX12_sums 79 = .ok (.iload_n 1, 1) := by decide +kernel
theorem dX12_sums_80 : decode cX12_sums 80 = .ok (.putfield 326, 3) := by decide +kernel
theorem dX12_sums_83 : decode cX12_sums 83 = .ok (.return_, 1) := by decide +kernel
theorem zy_X12_sums : zYv yX12_sums cX12_sums 3 none 0 := ⟨zw_1594, zws_61, zw_12, zw_1595, by decide, by decide, by decide⟩
theorem c_X12_sums_b15 {C : zC} {I : Nat → Nat → Int32} {J : Nat → Nat → Int64} {Rr : Nat → Nat → Option Nat} {D : zD} (N : Nat) (v_end : Int32) (e_v_end : I 128 20 = v_end) (v_debtWord : (Nat → Int32)) (e_v_debtWord : I 161 = v_debtWord) (v_maxWord : (Nat → Int32)) (e_v_maxWord : I 164 = v_maxWord) (v_minWord : (Nat → Int32)) (e_v_minWord : I 163 = v_minWord) (v_paidWord : (Nat → Int32)) (e_v_paidWord : I 162 = v_paidWord) (v_penceWord : (Nat → Int32)) (e_v_penceWord : I 156 = v_penceWord) (v_poundsWord : (Nat → Int32)) (e_v_poundsWord : I 158 = v_poundsWord) (v_shillingsWord : (Nat → Int32)) (e_v_shillingsWord : I 157 = v_shillingsWord) (v_tape : (Nat → Int32)) (e_v_tape : I 143 = v_tape) (v_termWord : (Nat → Int32)) (e_v_termWord : I 159 = v_termWord) (v_yearWord : (Nat → Int32)) (e_v_yearWord : I 160 = v_yearWord) (y_v_at : Int32) (y_v_bad : Int32) (y_v_badPlace : Int32) (y_v_base : Int32) (y_v_coded : Int32) (y_v_ended : Int32) (y_v_open : Int32) (y_v_waits : Int32) (y_v_codes : (Nat → Int32)) (y_v_wait : (Nat → Int32)) (E : zE C RX12 cX12_sums 3 none ({ frames := 5, cells := 0, slots := 0, locals := 110 } : Room)) (hQ : C.Q = zQv C ({ frames := 5, cells := 0, slots := 0, locals := 110 } : Room) ((va_up (va_up (va_up I 128 (va_up (va_up (va_up (va_up (va_up (va_up (va_up (va_up (I 128) 19 y_v_at) 21 y_v_ended) 22 y_v_bad) 23 y_v_badPlace) 56 y_v_coded) 58 y_v_waits) 59 y_v_open) 60 y_v_base)) 173 y_v_codes) 174 y_v_wait), J, Rr, D)) (x1 : Int32) (v_base : Int32) (k53 : Int32 → Int32 → Int32 → Int32 → Int32 → Int32 → Int32 → (Nat → Int32) → (Nat → Int32) → Option R_pM_sums) (hk53 : ∀ (v_at : Int32) (v_bad : Int32) (v_badPlace : Int32) (v_coded : Int32) (v_ended : Int32) (v_open : Int32) (v_waits : Int32) (v_codes : (Nat → Int32)) (v_wait : (Nat → Int32)), k53 v_at v_bad v_badPlace v_coded v_ended v_open v_waits v_codes v_wait = some (y_v_at, y_v_bad, y_v_badPlace, y_v_base, y_v_coded, y_v_ended, y_v_open, y_v_waits, y_v_codes, y_v_wait) → zB C (0, 0) 53 [(0, .ref (C.X.1 + 128)), (1, .int x1)] [] ((va_up (va_up (va_up I 128 (va_up (va_up (va_up (va_up (va_up (va_up (va_up (va_up (I 128) 19 v_at) 21 v_ended) 22 v_bad) 23 v_badPlace) 56 v_coded) 58 v_waits) 59 v_open) 60 v_base)) 173 v_codes) 174 v_wait), J, Rr, D)) : ∀ (n9 : Nat) (x2 : Int32) (v_at : Int32) (v_bad : Int32) (v_badPlace : Int32) (v_coded : Int32) (v_ended : Int32) (v_open : Int32) (v_waits : Int32) (v_codes : (Nat → Int32)) (v_wait : (Nat → Int32)), pM_sums_b15 N v_end v_debtWord v_maxWord v_minWord v_paidWord v_penceWord v_poundsWord v_shillingsWord v_tape v_termWord v_yearWord x1 v_base k53 n9 x2 v_at v_bad v_badPlace v_coded v_ended v_open v_waits v_codes v_wait = some (y_v_at, y_v_bad, y_v_badPlace, y_v_base, y_v_coded, y_v_ended, y_v_open, y_v_waits, y_v_codes, y_v_wait) → zB C (0, 0) 15 [(0, .ref (C.X.1 + 128)), (1, .int x1), (2, .int x2)] [] ((va_up (va_up (va_up I 128 (va_up (va_up (va_up (va_up (va_up (va_up (va_up (va_up (I 128) 19 v_at) 21 v_ended) 22 v_bad) 23 v_badPlace) 56 v_coded) 58 v_waits) 59 v_open) 60 v_base)) 173 v_codes) 174 v_wait), J, Rr, D) := by
  refine zlp10_ind (P := fun (x2 : Int32) (v_at : Int32) (v_bad : Int32) (v_badPlace : Int32) (v_coded : Int32) (v_ended : Int32) (v_open : Int32) (v_waits : Int32) (v_codes : (Nat → Int32)) (v_wait : (Nat → Int32)) => zB C (0, 0) 15 [(0, .ref (C.X.1 + 128)), (1, .int x1), (2, .int x2)] [] ((va_up (va_up (va_up I 128 (va_up (va_up (va_up (va_up (va_up (va_up (va_up (va_up (I 128) 19 v_at) 21 v_ended) 22 v_bad) 23 v_badPlace) 56 v_coded) 58 v_waits) 59 v_open) 60 v_base)) 173 v_codes) 174 v_wait), J, Rr, D)) (fun self ih => ?_)
  intro x2 v_at v_bad v_badPlace v_coded v_ended v_open v_waits v_codes v_wait h
  refine zb_iload_n E dX12_sums_15 2 rfl rfl ?_
  refine zb_if_eq E dX12_sums_16 (tgt := 53) rfl (fun hc => ?_) (fun hc => ?_)
  · have h := if_t h hc
    refine zb_sub [0, 1] rfl ?_
    exact hk53 v_at v_bad v_badPlace v_coded v_ended v_open v_waits v_codes v_wait h
  · have h := if_f h hc
    refine zb_aload_n E dX12_sums_19 0 rfl rfl ?_
    refine zb_get E 128 (by decide) (zF_128 C.X) rfl zin12 22 (by decide) zw_1190 (v := .int v_bad) rfl dX12_sums_20 ?_
    refine zb_if_ne E dX12_sums_23 (tgt := 53) rfl (fun hc => ?_) (fun hc => ?_)
    · have h := if_f h hc
      refine zb_sub [0, 1] rfl ?_
      exact hk53 v_at v_bad v_badPlace v_coded v_ended v_open v_waits v_codes v_wait h
    · have h := if_t h hc
      refine zb_aload_n E dX12_sums_26 0 rfl rfl ?_
      obtain ⟨v_at_c1, v_bad_c1, v_badPlace_c1, v_coded_c1, v_ended_c1, v_open_c1, v_waits_c1, v_codes_c1, v_wait_c1, hc_27, h⟩ := bd9_s h
      refine zb_cVv E [] 128 zy_X12_part zw_1596 (by decide) (zF_128 _ _ _ _) rfl (c_X12_part (va_up (va_up (va_up (va_up (va_up (va_up (va_up (va_up (I 128) 19 v_at) 21 v_ended) 22 v_bad) 23 v_badPlace) 56 v_coded) 58 v_waits) 59 v_open) 60 v_base) rfl v_end (by exact e_v_end) v_debtWord (by exact e_v_debtWord) v_maxWord (by exact e_v_maxWord) v_minWord (by exact e_v_minWord) v_paidWord (by exact e_v_paidWord) v_penceWord (by exact e_v_penceWord) v_poundsWord (by exact e_v_poundsWord) v_shillingsWord (by exact e_v_shillingsWord) v_tape (by exact e_v_tape) v_termWord (by exact e_v_termWord) v_yearWord (by exact e_v_yearWord) v_at rfl v_bad rfl v_badPlace rfl v_coded rfl v_ended rfl v_open rfl v_waits rfl v_codes rfl v_wait rfl hc_27) (by decide) rfl rfl (by first | decide | simp [Value.category]) dX12_sums_27 (cs2 := (0, 0)) rfl ?_
      refine zb_S (S2 := ((va_up (va_up (va_up I 128 (va_up (va_up (va_up (va_up (va_up (va_up (va_up (va_up (I 128) 19 v_at_c1) 21 v_ended_c1) 22 v_bad_c1) 23 v_badPlace_c1) 56 v_coded_c1) 58 v_waits_c1) 59 v_open_c1) 60 v_base)) 173 v_codes_c1) 174 v_wait_c1), J, Rr, D)) (zS_eq ((zcgF ((zcgF ((zcgV ((zcgF ((zcgF ((zcgF ((zcgF ((zcgF ((zcgF (zn8 (by decide : (60 : Nat) ≠ 19) (by decide : (59 : Nat) ≠ 19) (by decide : (58 : Nat) ≠ 19) (by decide : (56 : Nat) ≠ 19) (by decide : (23 : Nat) ≠ 19) (by decide : (22 : Nat) ≠ 19) (by decide : (21 : Nat) ≠ 19))).trans (zn7 (by decide : (60 : Nat) ≠ 21) (by decide : (59 : Nat) ≠ 21) (by decide : (58 : Nat) ≠ 21) (by decide : (56 : Nat) ≠ 21) (by decide : (23 : Nat) ≠ 21) (by decide : (22 : Nat) ≠ 21)))).trans (zn6 (by decide : (60 : Nat) ≠ 22) (by decide : (59 : Nat) ≠ 22) (by decide : (58 : Nat) ≠ 22) (by decide : (56 : Nat) ≠ 22) (by decide : (23 : Nat) ≠ 22)))).trans (zn5 (by decide : (60 : Nat) ≠ 23) (by decide : (59 : Nat) ≠ 23) (by decide : (58 : Nat) ≠ 23) (by decide : (56 : Nat) ≠ 23)))).trans (zn4 (by decide : (60 : Nat) ≠ 56) (by decide : (59 : Nat) ≠ 56) (by decide : (58 : Nat) ≠ 56)))).trans (zn3 (by decide : (60 : Nat) ≠ 58) (by decide : (59 : Nat) ≠ 58)))).trans (zn2 (by decide : (60 : Nat) ≠ 59)))).trans (zn3 (by decide : (174 : Nat) ≠ 128) (by decide : (173 : Nat) ≠ 128)))).trans (zn2 (by decide : (174 : Nat) ≠ 173)))).trans zn1) rfl) ?_
      refine zb_aload_n E dX12_sums_30 0 rfl rfl ?_
      refine zb_get E 128 (by decide) (zF_128 C.X) rfl zin12 22 (by decide) zw_1190 (v := .int v_bad_c1) rfl dX12_sums_31 ?_
      refine zb_if_ne E dX12_sums_34 (tgt := 48) rfl (fun hc => ?_) (fun hc => ?_)
      · have h := if_f h hc
        refine zb_iconst E dX12_sums_48 (v := 0) rfl ?_
        refine zb_istore_n E dX12_sums_49 rfl (by decide) (lv2 := [(2, .int 0), (0, .ref (C.X.1 + 128)), (1, .int x1)]) rfl ?_
        refine zb_goto E dX12_sums_50 (tgt := 15) rfl ?_
        refine zb_sub [1, 2, 0] rfl ?_
        exact ih 0 v_at_c1 v_bad_c1 v_badPlace_c1 v_coded_c1 v_ended_c1 v_open_c1 v_waits_c1 v_codes_c1 v_wait_c1 h
      · have h := if_t h hc
        refine zb_aload_n E dX12_sums_37 0 rfl rfl ?_
        obtain ⟨rc2, v_at_c2, v_bad_c2, v_badPlace_c2, v_coded_c2, v_open_c2, v_waits_c2, v_codes_c2, v_wait_c2, hc_38, h⟩ := bd9_s h
        refine zb_cVi E [] 128 zy_X12_goesOn zw_1632 (by decide) (zF_128 _ _ _ _) rfl (c_X12_goesOn (va_up (va_up (va_up (va_up (va_up (va_up (va_up (va_up (I 128) 19 v_at_c1) 21 v_ended_c1) 22 v_bad_c1) 23 v_badPlace_c1) 56 v_coded_c1) 58 v_waits_c1) 59 v_open_c1) 60 v_base) rfl v_base rfl v_end (by exact e_v_end) v_tape (by exact e_v_tape) v_at_c1 rfl v_bad_c1 rfl v_badPlace_c1 rfl v_coded_c1 rfl v_open_c1 rfl v_waits_c1 rfl v_codes_c1 rfl v_wait_c1 rfl hc_38) (by decide) rfl rfl (by first | decide | simp [Value.category]) dX12_sums_38 (cs2 := (0, 0)) rfl ?_
        refine zb_S (S2 := ((va_up (va_up (va_up I 128 (va_up (va_up (va_up (va_up (va_up (va_up (va_up (va_up (I 128) 19 v_at_c2) 21 v_ended_c1) 22 v_bad_c2) 23 v_badPlace_c2) 56 v_coded_c2) 58 v_waits_c2) 59 v_open_c2) 60 v_base)) 173 v_codes_c2) 174 v_wait_c2), J, Rr, D)) (zS_eq ((zcgF ((zcgF ((zcgV ((zcgF ((zcgF ((zcgF ((zcgF ((zcgF (zn8 (by decide : (60 : Nat) ≠ 19) (by decide : (59 : Nat) ≠ 19) (by decide : (58 : Nat) ≠ 19) (by decide : (56 : Nat) ≠ 19) (by decide : (23 : Nat) ≠ 19) (by decide : (22 : Nat) ≠ 19) (by decide : (21 : Nat) ≠ 19))).trans (zn6 (by decide : (60 : Nat) ≠ 22) (by decide : (59 : Nat) ≠ 22) (by decide : (58 : Nat) ≠ 22) (by decide : (56 : Nat) ≠ 22) (by decide : (23 : Nat) ≠ 22)))).trans (zn5 (by decide : (60 : Nat) ≠ 23) (by decide : (59 : Nat) ≠ 23) (by decide : (58 : Nat) ≠ 23) (by decide : (56 : Nat) ≠ 23)))).trans (zn4 (by decide : (60 : Nat) ≠ 56) (by decide : (59 : Nat) ≠ 56) (by decide : (58 : Nat) ≠ 56)))).trans (zn3 (by decide : (60 : Nat) ≠ 58) (by decide : (59 : Nat) ≠ 58)))).trans (zn2 (by decide : (60 : Nat) ≠ 59)))).trans (zn3 (by decide : (174 : Nat) ≠ 128) (by decide : (173 : Nat) ≠ 128)))).trans (zn2 (by decide : (174 : Nat) ≠ 173)))).trans zn1) rfl) ?_
        refine zb_if_eq E dX12_sums_41 (tgt := 48) rfl (fun hc => ?_) (fun hc => ?_)
        · have h := if_t h hc
          refine zb_iconst E dX12_sums_48 (v := 0) rfl ?_
          refine zb_istore_n E dX12_sums_49 rfl (by decide) (lv2 := [(2, .int 0), (0, .ref (C.X.1 + 128)), (1, .int x1)]) rfl ?_
          refine zb_goto E dX12_sums_50 (tgt := 15) rfl ?_
          refine zb_sub [1, 2, 0] rfl ?_
          exact ih 0 v_at_c2 v_bad_c2 v_badPlace_c2 v_coded_c2 v_ended_c1 v_open_c2 v_waits_c2 v_codes_c2 v_wait_c2 h
        · have h := if_f h hc
          refine zb_iconst E dX12_sums_44 (v := 1) rfl ?_
          refine zb_goto E dX12_sums_45 (tgt := 49) rfl ?_
          refine zb_istore_n E dX12_sums_49 rfl (by decide) (lv2 := [(2, .int 1), (0, .ref (C.X.1 + 128)), (1, .int x1)]) rfl ?_
          refine zb_goto E dX12_sums_50 (tgt := 15) rfl ?_
          refine zb_sub [1, 2, 0] rfl ?_
          exact ih 1 v_at_c2 v_bad_c2 v_badPlace_c2 v_coded_c2 v_ended_c1 v_open_c2 v_waits_c2 v_codes_c2 v_wait_c2 h
theorem c_X12_sums_b53 {C : zC} {I : Nat → Nat → Int32} {J : Nat → Nat → Int64} {Rr : Nat → Nat → Option Nat} {D : zD} (N : Nat) (v_end : Int32) (e_v_end : I 128 20 = v_end) (v_debtWord : (Nat → Int32)) (e_v_debtWord : I 161 = v_debtWord) (v_maxWord : (Nat → Int32)) (e_v_maxWord : I 164 = v_maxWord) (v_minWord : (Nat → Int32)) (e_v_minWord : I 163 = v_minWord) (v_paidWord : (Nat → Int32)) (e_v_paidWord : I 162 = v_paidWord) (v_penceWord : (Nat → Int32)) (e_v_penceWord : I 156 = v_penceWord) (v_poundsWord : (Nat → Int32)) (e_v_poundsWord : I 158 = v_poundsWord) (v_shillingsWord : (Nat → Int32)) (e_v_shillingsWord : I 157 = v_shillingsWord) (v_tape : (Nat → Int32)) (e_v_tape : I 143 = v_tape) (v_termWord : (Nat → Int32)) (e_v_termWord : I 159 = v_termWord) (v_yearWord : (Nat → Int32)) (e_v_yearWord : I 160 = v_yearWord) (y_v_at : Int32) (y_v_bad : Int32) (y_v_badPlace : Int32) (y_v_base : Int32) (y_v_coded : Int32) (y_v_ended : Int32) (y_v_open : Int32) (y_v_waits : Int32) (y_v_codes : (Nat → Int32)) (y_v_wait : (Nat → Int32)) (E : zE C RX12 cX12_sums 3 none ({ frames := 5, cells := 0, slots := 0, locals := 110 } : Room)) (hQ : C.Q = zQv C ({ frames := 5, cells := 0, slots := 0, locals := 110 } : Room) ((va_up (va_up (va_up I 128 (va_up (va_up (va_up (va_up (va_up (va_up (va_up (va_up (I 128) 19 y_v_at) 21 y_v_ended) 22 y_v_bad) 23 y_v_badPlace) 56 y_v_coded) 58 y_v_waits) 59 y_v_open) 60 y_v_base)) 173 y_v_codes) 174 y_v_wait), J, Rr, D)) (x1 : Int32) (v_at : Int32) (v_bad : Int32) (v_badPlace : Int32) (v_base : Int32) (v_ended : Int32) (v_open : Int32) (v_wait : (Nat → Int32)) (k78 : Int32 → Int32 → (Nat → Int32) → Option R_pM_sums) (hk78 : ∀ (v_coded : Int32) (v_waits : Int32) (v_codes : (Nat → Int32)), k78 v_coded v_waits v_codes = some (y_v_at, y_v_bad, y_v_badPlace, y_v_base, y_v_coded, y_v_ended, y_v_open, y_v_waits, y_v_codes, y_v_wait) → zB C (0, 0) 78 [(0, .ref (C.X.1 + 128)), (1, .int x1)] [] ((va_up (va_up (va_up I 128 (va_up (va_up (va_up (va_up (va_up (va_up (va_up (va_up (I 128) 19 v_at) 21 v_ended) 22 v_bad) 23 v_badPlace) 56 v_coded) 58 v_waits) 59 v_open) 60 v_base)) 173 v_codes) 174 v_wait), J, Rr, D)) : ∀ (n9 : Nat) (v_coded : Int32) (v_waits : Int32) (v_codes : (Nat → Int32)), pM_sums_b53 N v_end v_debtWord v_maxWord v_minWord v_paidWord v_penceWord v_poundsWord v_shillingsWord v_tape v_termWord v_yearWord x1 v_at v_bad v_badPlace v_base v_ended v_open v_wait k78 n9 v_coded v_waits v_codes = some (y_v_at, y_v_bad, y_v_badPlace, y_v_base, y_v_coded, y_v_ended, y_v_open, y_v_waits, y_v_codes, y_v_wait) → zB C (0, 0) 53 [(0, .ref (C.X.1 + 128)), (1, .int x1)] [] ((va_up (va_up (va_up I 128 (va_up (va_up (va_up (va_up (va_up (va_up (va_up (va_up (I 128) 19 v_at) 21 v_ended) 22 v_bad) 23 v_badPlace) 56 v_coded) 58 v_waits) 59 v_open) 60 v_base)) 173 v_codes) 174 v_wait), J, Rr, D) := by
  refine zlp3_ind (P := fun (v_coded : Int32) (v_waits : Int32) (v_codes : (Nat → Int32)) => zB C (0, 0) 53 [(0, .ref (C.X.1 + 128)), (1, .int x1)] [] ((va_up (va_up (va_up I 128 (va_up (va_up (va_up (va_up (va_up (va_up (va_up (va_up (I 128) 19 v_at) 21 v_ended) 22 v_bad) 23 v_badPlace) 56 v_coded) 58 v_waits) 59 v_open) 60 v_base)) 173 v_codes) 174 v_wait), J, Rr, D)) (fun self ih => ?_)
  intro v_coded v_waits v_codes h
  refine zb_aload_n E dX12_sums_53 0 rfl rfl ?_
  refine zb_get E 128 (by decide) (zF_128 C.X) rfl zin12 22 (by decide) zw_1190 (v := .int v_bad) rfl dX12_sums_54 ?_
  refine zb_if_ne E dX12_sums_57 (tgt := 78) rfl (fun hc => ?_) (fun hc => ?_)
  · have h := if_f h hc
    exact hk78 v_coded v_waits v_codes h
  · have h := if_t h hc
    refine zb_aload_n E dX12_sums_60 0 rfl rfl ?_
    refine zb_get E 128 (by decide) (zF_128 C.X) rfl zin12 58 (by decide) zw_1226 (v := .int v_waits) rfl dX12_sums_61 ?_
    refine zb_aload_n E dX12_sums_64 0 rfl rfl ?_
    refine zb_get E 128 (by decide) (zF_128 C.X) rfl zin12 60 (by decide) zw_1228 (v := .int v_base) rfl dX12_sums_65 ?_
    refine zb_icmp_le E dX12_sums_68 (tgt := 78) rfl (fun hc => ?_) (fun hc => ?_)
    · have h := if_t h hc
      exact hk78 v_coded v_waits v_codes h
    · have h := if_f h hc
      refine zb_aload_n E dX12_sums_71 0 rfl rfl ?_
      obtain ⟨v_coded_c3, v_waits_c3, v_codes_c3, hc_72, h⟩ := bd3_s h
      refine zb_cVv E [] 128 zy_X12_drops zw_1648 (by decide) (zF_128 _ _ _ _) rfl (c_X12_drops (va_up (va_up (va_up (va_up (va_up (va_up (va_up (va_up (I 128) 19 v_at) 21 v_ended) 22 v_bad) 23 v_badPlace) 56 v_coded) 58 v_waits) 59 v_open) 60 v_base) rfl v_wait rfl v_coded rfl v_waits rfl v_codes rfl hc_72) (by decide) rfl rfl (by first | decide | simp [Value.category]) dX12_sums_72 (cs2 := (0, 0)) rfl ?_
      refine zb_S (S2 := ((va_up (va_up (va_up I 128 (va_up (va_up (va_up (va_up (va_up (va_up (va_up (va_up (I 128) 19 v_at) 21 v_ended) 22 v_bad) 23 v_badPlace) 56 v_coded_c3) 58 v_waits_c3) 59 v_open) 60 v_base)) 173 v_codes_c3) 174 v_wait), J, Rr, D)) (zS_eq ((zcgF ((zcgV ((zcgF (zn4 (by decide : (60 : Nat) ≠ 56) (by decide : (59 : Nat) ≠ 56) (by decide : (58 : Nat) ≠ 56))).trans (zn3 (by decide : (60 : Nat) ≠ 58) (by decide : (59 : Nat) ≠ 58)))).trans (zn3 (by decide : (174 : Nat) ≠ 128) (by decide : (173 : Nat) ≠ 128)))).trans (zn2 (by decide : (174 : Nat) ≠ 173))) rfl) ?_
      refine zb_goto E dX12_sums_75 (tgt := 53) rfl ?_
      exact ih v_coded_c3 v_waits_c3 v_codes_c3 h
theorem c_X12_sums_b78 {C : zC} {I : Nat → Nat → Int32} {J : Nat → Nat → Int64} {Rr : Nat → Nat → Option Nat} {D : zD} (N : Nat) (v_end : Int32) (e_v_end : I 128 20 = v_end) (v_debtWord : (Nat → Int32)) (e_v_debtWord : I 161 = v_debtWord) (v_maxWord : (Nat → Int32)) (e_v_maxWord : I 164 = v_maxWord) (v_minWord : (Nat → Int32)) (e_v_minWord : I 163 = v_minWord) (v_paidWord : (Nat → Int32)) (e_v_paidWord : I 162 = v_paidWord) (v_penceWord : (Nat → Int32)) (e_v_penceWord : I 156 = v_penceWord) (v_poundsWord : (Nat → Int32)) (e_v_poundsWord : I 158 = v_poundsWord) (v_shillingsWord : (Nat → Int32)) (e_v_shillingsWord : I 157 = v_shillingsWord) (v_tape : (Nat → Int32)) (e_v_tape : I 143 = v_tape) (v_termWord : (Nat → Int32)) (e_v_termWord : I 159 = v_termWord) (v_yearWord : (Nat → Int32)) (e_v_yearWord : I 160 = v_yearWord) (y_v_at : Int32) (y_v_bad : Int32) (y_v_badPlace : Int32) (y_v_base : Int32) (y_v_coded : Int32) (y_v_ended : Int32) (y_v_open : Int32) (y_v_waits : Int32) (y_v_codes : (Nat → Int32)) (y_v_wait : (Nat → Int32)) (E : zE C RX12 cX12_sums 3 none ({ frames := 5, cells := 0, slots := 0, locals := 110 } : Room)) (hQ : C.Q = zQv C ({ frames := 5, cells := 0, slots := 0, locals := 110 } : Room) ((va_up (va_up (va_up I 128 (va_up (va_up (va_up (va_up (va_up (va_up (va_up (va_up (I 128) 19 y_v_at) 21 y_v_ended) 22 y_v_bad) 23 y_v_badPlace) 56 y_v_coded) 58 y_v_waits) 59 y_v_open) 60 y_v_base)) 173 y_v_codes) 174 y_v_wait), J, Rr, D)) (x1 : Int32) (v_at : Int32) (v_bad : Int32) (v_badPlace : Int32) (v_base : Int32) (v_coded : Int32) (v_ended : Int32) (v_open : Int32) (v_waits : Int32) (v_codes : (Nat → Int32)) (v_wait : (Nat → Int32)) (h : pM_sums_b78 N v_end v_debtWord v_maxWord v_minWord v_paidWord v_penceWord v_poundsWord v_shillingsWord v_tape v_termWord v_yearWord x1 v_at v_bad v_badPlace v_base v_coded v_ended v_open v_waits v_codes v_wait = some (y_v_at, y_v_bad, y_v_badPlace, y_v_base, y_v_coded, y_v_ended, y_v_open, y_v_waits, y_v_codes, y_v_wait)) : zB C (0, 0) 78 [(0, .ref (C.X.1 + 128)), (1, .int x1)] [] ((va_up (va_up (va_up I 128 (va_up (va_up (va_up (va_up (va_up (va_up (va_up (va_up (I 128) 19 v_at) 21 v_ended) 22 v_bad) 23 v_badPlace) 56 v_coded) 58 v_waits) 59 v_open) 60 v_base)) 173 v_codes) 174 v_wait), J, Rr, D) := by
  refine zb_aload_n E dX12_sums_78 0 rfl rfl ?_
  refine zb_iload_n E dX12_sums_79 1 rfl rfl ?_
  refine zb_put E 128 (by decide) (zF_128 C.X) rfl zin12 60 (by decide) zw_1228 tyX12 tyX12_ok nmX12 rfl rfl rfl (I2 := (va_up (va_up (va_up I 128 (va_up (va_up (va_up (va_up (va_up (va_up (va_up (va_up (I 128) 19 v_at) 21 v_ended) 22 v_bad) 23 v_badPlace) 56 v_coded) 58 v_waits) 59 v_open) 60 x1)) 173 v_codes) 174 v_wait)) (J2 := J) ((zset12_60 C.X (va_up (va_up (va_up (va_up (va_up (va_up (va_up (va_up (I 128) 19 v_at) 21 v_ended) 22 v_bad) 23 v_badPlace) 56 v_coded) 58 v_waits) 59 v_open) 60 v_base) (J 128) x1).trans (congrArg (fun g => zf12 C.X g (J 128)) zn1)) (by rw [zflen12]; decide) (fun j hj => ⟨zup_cg (zup_cg ((zup_n hj).trans (zup_n hj).symm)), rfl⟩) dX12_sums_80 ?_
  obtain ⟨rfl, rfl, rfl, rfl, rfl, rfl, rfl, rfl, rfl, rfl⟩ := zinj10 h
  exact zb_vret E hQ rfl ⟨Nat.zero_le _, Nat.zero_le _⟩ dX12_sums_83
theorem c_X12_sums_0 {C : zC} {I : Nat → Nat → Int32} {J : Nat → Nat → Int64} {Rr : Nat → Nat → Option Nat} {D : zD} (N : Nat) (v_end : Int32) (e_v_end : I 128 20 = v_end) (v_debtWord : (Nat → Int32)) (e_v_debtWord : I 161 = v_debtWord) (v_maxWord : (Nat → Int32)) (e_v_maxWord : I 164 = v_maxWord) (v_minWord : (Nat → Int32)) (e_v_minWord : I 163 = v_minWord) (v_paidWord : (Nat → Int32)) (e_v_paidWord : I 162 = v_paidWord) (v_penceWord : (Nat → Int32)) (e_v_penceWord : I 156 = v_penceWord) (v_poundsWord : (Nat → Int32)) (e_v_poundsWord : I 158 = v_poundsWord) (v_shillingsWord : (Nat → Int32)) (e_v_shillingsWord : I 157 = v_shillingsWord) (v_tape : (Nat → Int32)) (e_v_tape : I 143 = v_tape) (v_termWord : (Nat → Int32)) (e_v_termWord : I 159 = v_termWord) (v_yearWord : (Nat → Int32)) (e_v_yearWord : I 160 = v_yearWord) (y_v_at : Int32) (y_v_bad : Int32) (y_v_badPlace : Int32) (y_v_base : Int32) (y_v_coded : Int32) (y_v_ended : Int32) (y_v_open : Int32) (y_v_waits : Int32) (y_v_codes : (Nat → Int32)) (y_v_wait : (Nat → Int32)) (E : zE C RX12 cX12_sums 3 none ({ frames := 5, cells := 0, slots := 0, locals := 110 } : Room)) (hQ : C.Q = zQv C ({ frames := 5, cells := 0, slots := 0, locals := 110 } : Room) ((va_up (va_up (va_up I 128 (va_up (va_up (va_up (va_up (va_up (va_up (va_up (va_up (I 128) 19 y_v_at) 21 y_v_ended) 22 y_v_bad) 23 y_v_badPlace) 56 y_v_coded) 58 y_v_waits) 59 y_v_open) 60 y_v_base)) 173 y_v_codes) 174 y_v_wait), J, Rr, D)) (v_at : Int32) (v_bad : Int32) (v_badPlace : Int32) (v_base : Int32) (v_coded : Int32) (v_ended : Int32) (v_open : Int32) (v_waits : Int32) (v_codes : (Nat → Int32)) (v_wait : (Nat → Int32)) (h : pM_sums N v_at v_bad v_badPlace v_base v_coded v_end v_ended v_open v_waits v_codes v_debtWord v_maxWord v_minWord v_paidWord v_penceWord v_poundsWord v_shillingsWord v_tape v_termWord v_wait v_yearWord = some (y_v_at, y_v_bad, y_v_badPlace, y_v_base, y_v_coded, y_v_ended, y_v_open, y_v_waits, y_v_codes, y_v_wait)) : zB C (0, 0) 0 [(0, .ref (C.X.1 + 128))] [] ((va_up (va_up (va_up I 128 (va_up (va_up (va_up (va_up (va_up (va_up (va_up (va_up (I 128) 19 v_at) 21 v_ended) 22 v_bad) 23 v_badPlace) 56 v_coded) 58 v_waits) 59 v_open) 60 v_base)) 173 v_codes) 174 v_wait), J, Rr, D) := by
  refine zb_aload_n E dX12_sums_0 0 rfl rfl ?_
  refine zb_get E 128 (by decide) (zF_128 C.X) rfl zin12 60 (by decide) zw_1228 (v := .int v_base) rfl dX12_sums_1 ?_
  refine zb_istore_n E dX12_sums_4 rfl (by decide) (lv2 := [(1, .int v_base), (0, .ref (C.X.1 + 128))]) rfl ?_
  refine zb_aload_n E dX12_sums_5 1 rfl rfl ?_
  refine zb_aload_n E dX12_sums_6 1 rfl rfl ?_
  refine zb_get E 128 (by decide) (zF_128 C.X) rfl zin12 58 (by decide) zw_1226 (v := .int v_waits) rfl dX12_sums_7 ?_
  refine zb_put E 128 (by decide) (zF_128 C.X) rfl zin12 60 (by decide) zw_1228 tyX12 tyX12_ok nmX12 rfl rfl rfl (I2 := (va_up (va_up (va_up I 128 (va_up (va_up (va_up (va_up (va_up (va_up (va_up (va_up (I 128) 19 v_at) 21 v_ended) 22 v_bad) 23 v_badPlace) 56 v_coded) 58 v_waits) 59 v_open) 60 v_waits)) 173 v_codes) 174 v_wait)) (J2 := J) ((zset12_60 C.X (va_up (va_up (va_up (va_up (va_up (va_up (va_up (va_up (I 128) 19 v_at) 21 v_ended) 22 v_bad) 23 v_badPlace) 56 v_coded) 58 v_waits) 59 v_open) 60 v_base) (J 128) v_waits).trans (congrArg (fun g => zf12 C.X g (J 128)) zn1)) (by rw [zflen12]; decide) (fun j hj => ⟨zup_cg (zup_cg ((zup_n hj).trans (zup_n hj).symm)), rfl⟩) dX12_sums_10 ?_
  refine zb_iconst E dX12_sums_13 (v := 1) rfl ?_
  refine zb_istore_n E dX12_sums_14 rfl (by decide) (lv2 := [(2, .int 1), (1, .int v_base), (0, .ref (C.X.1 + 128))]) rfl ?_
  refine zb_sub [2, 1, 0] rfl ?_
  exact c_X12_sums_b15 N v_end e_v_end v_debtWord e_v_debtWord v_maxWord e_v_maxWord v_minWord e_v_minWord v_paidWord e_v_paidWord v_penceWord e_v_penceWord v_poundsWord e_v_poundsWord v_shillingsWord e_v_shillingsWord v_tape e_v_tape v_termWord e_v_termWord v_yearWord e_v_yearWord y_v_at y_v_bad y_v_badPlace y_v_base y_v_coded y_v_ended y_v_open y_v_waits y_v_codes y_v_wait E hQ v_base v_waits _ (fun v_at_z1 v_bad_z2 v_badPlace_z3 v_coded_z4 v_ended_z5 v_open_z6 v_waits_z7 v_codes_z8 v_wait_z9 h => c_X12_sums_b53 N v_end e_v_end v_debtWord e_v_debtWord v_maxWord e_v_maxWord v_minWord e_v_minWord v_paidWord e_v_paidWord v_penceWord e_v_penceWord v_poundsWord e_v_poundsWord v_shillingsWord e_v_shillingsWord v_tape e_v_tape v_termWord e_v_termWord v_yearWord e_v_yearWord y_v_at y_v_bad y_v_badPlace y_v_base y_v_coded y_v_ended y_v_open y_v_waits y_v_codes y_v_wait E hQ v_base v_at_z1 v_bad_z2 v_badPlace_z3 v_waits v_ended_z5 v_open_z6 v_wait_z9 _ (fun v_coded_z10 v_waits_z11 v_codes_z12 h => c_X12_sums_b78 N v_end e_v_end v_debtWord e_v_debtWord v_maxWord e_v_maxWord v_minWord e_v_minWord v_paidWord e_v_paidWord v_penceWord e_v_penceWord v_poundsWord e_v_poundsWord v_shillingsWord e_v_shillingsWord v_tape e_v_tape v_termWord e_v_termWord v_yearWord e_v_yearWord y_v_at y_v_bad y_v_badPlace y_v_base y_v_coded y_v_ended y_v_open y_v_waits y_v_codes y_v_wait E hQ v_base v_at_z1 v_bad_z2 v_badPlace_z3 v_waits v_coded_z10 v_ended_z5 v_open_z6 v_waits_z11 v_codes_z12 v_wait_z9 h) _ v_coded_z4 v_waits_z7 v_codes_z8 h) _ 1 v_at v_bad v_badPlace v_coded v_ended v_open v_waits v_codes v_wait h
theorem c_X12_sums {l : Launch} {X : zX} {I : Nat → Nat → Int32} {J : Nat → Nat → Int64} {Rr : Nat → Nat → Option Nat} {D : zD} {N : Nat} (oI128 : Nat → Int32) (eoI128 : I 128 = oI128) (v_end : Int32) (e_v_end : I 128 20 = v_end) (v_debtWord : (Nat → Int32)) (e_v_debtWord : I 161 = v_debtWord) (v_maxWord : (Nat → Int32)) (e_v_maxWord : I 164 = v_maxWord) (v_minWord : (Nat → Int32)) (e_v_minWord : I 163 = v_minWord) (v_paidWord : (Nat → Int32)) (e_v_paidWord : I 162 = v_paidWord) (v_penceWord : (Nat → Int32)) (e_v_penceWord : I 156 = v_penceWord) (v_poundsWord : (Nat → Int32)) (e_v_poundsWord : I 158 = v_poundsWord) (v_shillingsWord : (Nat → Int32)) (e_v_shillingsWord : I 157 = v_shillingsWord) (v_tape : (Nat → Int32)) (e_v_tape : I 143 = v_tape) (v_termWord : (Nat → Int32)) (e_v_termWord : I 159 = v_termWord) (v_yearWord : (Nat → Int32)) (e_v_yearWord : I 160 = v_yearWord) (v_at : Int32) (e_v_at : I 128 19 = v_at) (v_bad : Int32) (e_v_bad : I 128 22 = v_bad) (v_badPlace : Int32) (e_v_badPlace : I 128 23 = v_badPlace) (v_base : Int32) (e_v_base : I 128 60 = v_base) (v_coded : Int32) (e_v_coded : I 128 56 = v_coded) (v_ended : Int32) (e_v_ended : I 128 21 = v_ended) (v_open : Int32) (e_v_open : I 128 59 = v_open) (v_waits : Int32) (e_v_waits : I 128 58 = v_waits) (v_codes : (Nat → Int32)) (e_v_codes : I 173 = v_codes) (v_wait : (Nat → Int32)) (e_v_wait : I 174 = v_wait) {y_v_at : Int32} {y_v_bad : Int32} {y_v_badPlace : Int32} {y_v_base : Int32} {y_v_coded : Int32} {y_v_ended : Int32} {y_v_open : Int32} {y_v_waits : Int32} {y_v_codes : (Nat → Int32)} {y_v_wait : (Nat → Int32)} (h : pM_sums N v_at v_bad v_badPlace v_base v_coded v_end v_ended v_open v_waits v_codes v_debtWord v_maxWord v_minWord v_paidWord v_penceWord v_poundsWord v_shillingsWord v_tape v_termWord v_wait v_yearWord = some (y_v_at, y_v_bad, y_v_badPlace, y_v_base, y_v_coded, y_v_ended, y_v_open, y_v_waits, y_v_codes, y_v_wait)) : zMv l yX12_sums cX12_sums 3 none ({ frames := 5, cells := 0, slots := 0, locals := 110 } : Room) X [.ref (X.1 + 128)] (I, J, Rr, D) ((va_up (va_up (va_up I 128 (va_up (va_up (va_up (va_up (va_up (va_up (va_up (va_up oI128 19 y_v_at) 21 y_v_ended) 22 y_v_bad) 23 y_v_badPlace) 56 y_v_coded) 58 y_v_waits) 59 y_v_open) 60 y_v_base)) 173 y_v_codes) 174 y_v_wait), J, Rr, D) := by
  subst eoI128
  refine zMv.of (by decide) (Nat.le_of_ble_eq_true rfl) (fun C E hl hX hQ => ?_)
  subst hl
  subst hX
  have eI0 : (va_up (va_up (va_up I 128 (va_up (va_up (va_up (va_up (va_up (va_up (va_up (va_up (I 128) 19 v_at) 21 v_ended) 22 v_bad) 23 v_badPlace) 56 v_coded) 58 v_waits) 59 v_open) 60 v_base)) 173 v_codes) 174 v_wait) = I := by rw [zup_idE e_v_at, zup_idE e_v_ended, zup_idE e_v_bad, zup_idE e_v_badPlace, zup_idE e_v_coded, zup_idE e_v_waits, zup_idE e_v_open, zup_idE e_v_base, zup_id, zup_idE e_v_codes, zup_idE e_v_wait]
  have eJ0 : J = J := rfl
  refine zb_S (S2 := ((va_up (va_up (va_up I 128 (va_up (va_up (va_up (va_up (va_up (va_up (va_up (va_up (I 128) 19 v_at) 21 v_ended) 22 v_bad) 23 v_badPlace) 56 v_coded) 58 v_waits) 59 v_open) 60 v_base)) 173 v_codes) 174 v_wait), J, Rr, D)) (zS_eq eI0.symm eJ0.symm) ?_
  exact c_X12_sums_0 N v_end e_v_end v_debtWord e_v_debtWord v_maxWord e_v_maxWord v_minWord e_v_minWord v_paidWord e_v_paidWord v_penceWord e_v_penceWord v_poundsWord e_v_poundsWord v_shillingsWord e_v_shillingsWord v_tape e_v_tape v_termWord e_v_termWord v_yearWord e_v_yearWord y_v_at y_v_bad y_v_badPlace y_v_base y_v_coded y_v_ended y_v_open y_v_waits y_v_codes y_v_wait E hQ v_at v_bad v_badPlace v_base v_coded v_ended v_open v_waits v_codes v_wait h
-- ChequeredClothModel.fact
theorem dX12_fact_0 : decode cX12_fact 0 = .ok (.aload_n 0, 1) := by decide +kernel
theorem dX12_fact_1 : decode cX12_fact 1 = .ok (.aload_n 0, 1) := by decide +kernel
theorem dX12_fact_2 : decode cX12_fact 2 = .ok (.getfield 100, 3) := by decide +kernel
theorem dX12_fact_5 : decode cX12_fact 5 = .ok (.invokevirtual 301, 3) := by decide +kernel
theorem dX12_fact_8 : decode cX12_fact 8 = .ok (.ifCond .eq 10, 3) := by decide +kernel
theorem dX12_fact_11 : decode cX12_fact 11 = .ok (.aload_n 0, 1) := by decide +kernel
theorem dX12_fact_12 : decode cX12_fact 12 = .ok (.bipush 17, 2) := by decide +kernel
theorem dX12_fact_14 : decode cX12_fact 14 = .ok (.invokevirtual 323, 3) := by decide +kernel
theorem dX12_fact_17 : decode cX12_fact 17 = .ok (.return_, 1) := by decide +kernel
theorem dX12_fact_18 : decode cX12_fact 18 = .ok (.aload_n 0, 1) := by decide +kernel
theorem dX12_fact_19 : decode cX12_fact 19 = .ok (.aload_n 0, 1) := by decide +kernel
theorem dX12_fact_20 : decode cX12_fact 20 = .ok (.getfield 103, 3) := by decide +kernel
theorem dX12_fact_23 : decode cX12_fact 23 = .ok (.invokevirtual 301, 3) := by decide +kernel
theorem dX12_fact_26 : decode cX12_fact 26 = .ok (.ifCond .eq 18, 3) := by decide +kernel
theorem dX12_fact_29 : decode cX12_fact 29 = .ok (.aload_n 0, 1) := by decide +kernel
theorem dX12_fact_30 : decode cX12_fact 30 = .ok (.bipush 100, 2) := by decide +kernel
theorem dX12_fact_32 : decode cX12_fact 32 = .ok (.aload_n 0, 1) := by decide +kernel
theorem dX12_fact_33 : decode cX12_fact 33 = .ok (.iconst 0, 1) := by decide +kernel
theorem dX12_fact_34 : decode cX12_fact 34 = .ok (.bipush 7, 2) := by decide +kernel
theorem dX12_fact_36 : decode cX12_fact 36 = .ok (.invokevirtual 349, 3) := by decide +kernel
theorem dX12_fact_39 : decode cX12_fact 39 = .ok (.iadd, 1) := by decide +kernel
theorem dX12_fact_40 : decode cX12_fact 40 = .ok (.invokevirtual 323, 3) := by decide +kernel
theorem dX12_fact_43 : decode cX12_fact 43 = .ok (.return_, 1) := by decide +kernel
theorem dX12_fact_44 : decode cX12_fact 44 = .ok (.aload_n 0, 1) := by decide +kernel
theorem dX12_fact_45 : decode cX12_fact 45 = .ok (.invokevirtual 368, 3) := by decide +kernel
theorem dX12_fact_48 : decode cX12_fact 48 = .ok (.aload_n 0, 1) := by decide +kernel
theorem dX12_fact_49 : decode cX12_fact 49 = .ok (.getfield 275, 3) := by decide +kernel
theorem dX12_fact_52 : decode cX12_fact 52 = .ok (.ifCond .eq 4, 3) := by decide +kernel
theorem dX12_fact_55 : decode cX12_fact 55 = .ok (.return_, 1) := by decide +kernel
theorem dX12_fact_56 : decode cX12_fact 56 = .ok (.aload_n 0, 1) := by decide +kernel
theorem dX12_fact_57 : decode cX12_fact 57 = .ok (.invokevirtual 287, 3) := by decide +kernel
theorem dX12_fact_60 : decode cX12_fact 60 = .ok (.istore_n 1, 1) := by decide +kernel
theorem dX12_fact_61 : decode cX12_fact 61 = .ok (.iload_n 1, 1) := by decide +kernel
theorem dX12_fact_62 : decode cX12_fact 62 = .ok (.bipush 60, 2) := by decide +kernel
theorem dX12_fact_64 : decode cX12_fact 64 = .ok (.if_icmp .eq 25, 3) := by decide +kernel
theorem dX12_fact_67 : decode cX12_fact 67 = .ok (.iload_n 1, 1) := by decide +kernel
theorem dX12_fact_68 : decode cX12_fact 68 = .ok (.bipush 62, 2) := by decide +kernel
theorem dX12_fact_70 : decode cX12_fact 70 = .ok (.if_icmp .eq 19, 3) := by decide +kernel
theorem dX12_fact_73 : decode cX12_fact 73 = .ok (.iload_n 1, 1) := by decide +kernel
theorem dX12_fact_74 : decode cX12_fact 74 = .ok (.bipush 61, 2) := by decide +kernel
theorem dX12_fact_76 : decode cX12_fact 76 = .ok (.if_icmp .eq 13, 3) := by decide +kernel
theorem dX12_fact_79 : decode cX12_fact 79 = .ok (.aload_n 0, 1) := by decide +kernel
theorem dX12_fact_80 : decode cX12_fact 80 = .ok (.iconst 1, 1) := by decide +kernel
theorem dX12_fact_81 : decode cX12_fact 81 = .ok (.aload_n 0, 1) := by decide +kernel
theorem dX12_fact_82 : decode cX12_fact 82 = .ok (.getfield 281, 3) := by decide +kernel
theorem dX12_fact_85 : decode cX12_fact 85 = .ok (.invokevirtual 304, 3) := by decide +kernel
theorem dX12_fact_88 : decode cX12_fact 88 = .ok (.return_, 1) := by decide +kernel
theorem dX12_fact_89 : decode cX12_fact 89 = .ok (.aload_n 0, 1) := by decide +kernel
theorem dX12_fact_90 : decode cX12_fact 90 = .ok (.dup, 1) := by decide +kernel
theorem dX12_fact_91 : decode cX12_fact 91 = .ok (.getfield 281, 3) := by decide +kernel
theorem dX12_fact_94 : decode cX12_fact 94 = .ok (.iconst 1, 1) := by decide +kernel
theorem dX12_fact_95 : decode cX12_fact 95 = .ok (.iadd, 1) := by decide +kernel
theorem dX12_fact_96 : decode cX12_fact 96 = .ok (.putfield 281, 3) := by decide +kernel
theorem dX12_fact_99 : decode cX12_fact 99 = .ok (.aload_n 0, 1) := by decide +kernel
theorem dX12_fact_100 : decode cX12_fact 100 = .ok (.invokevirtual 368, 3) := by decide +kernel
theorem dX12_fact_103 : decode cX12_fact 103 = .ok (.aload_n 0, 1) := by decide +kernel
theorem dX12_fact_104 : decode cX12_fact 104 = .ok (.iload_n 1, 1) := by decide +kernel
theorem dX12_fact_105 : decode cX12_fact 105 = .ok (.bipush 60, 2) := by decide +kernel
theorem dX12_fact_107 : decode cX12_fact 107 = .ok (.if_icmp .ne 8, 3) := by decide +kernel
theorem dX12_fact_110 : decode cX12_fact 110 = .ok (.bipush 11, 2) := by decide +kernel
theorem dX12_fact_112 : decode cX12_fact 112 = .ok (.goto 16, 3) := by decide +kernel
theorem dX12_fact_115 : decode cX12_fact 115 = .ok (.iload_n 1, 1) := by decide +kernel
theorem dX12_fact_116 : decode cX12_fact 116 = .ok (.bipush 62, 2) := by decide +kernel
theorem dX12_fact_118 : decode cX12_fact 118 = .ok (.if_icmp .ne 8, 3) := by decide +kernel
theorem dX12_fact_121 : decode cX12_fact 121 = .ok (.bipush 12, 2) := by decide +kernel
theorem dX12_fact_123 : decode cX12_fact 123 = .ok (.goto 5, 3) := by decide +kernel
theorem dX12_fact_126 : decode cX12_fact 126 = .ok (.bipush 13, 2) := by decide +kernel
theorem dX12_fact_128 : decode cX12_fact 128 = .ok (.invokevirtual 323, 3) := by decide +kernel
theorem dX12_fact_131 : decode cX12_fact 131 = .ok (.return_, 1) := by decide +kernel
theorem zy_X12_fact : zYv yX12_fact cX12_fact 2 none 0 := ⟨zw_1662, zws_77, zw_12, zw_1663, by decide, by decide, by decide⟩
theorem c_X12_fact_b128 {C : zC} {I : Nat → Nat → Int32} {J : Nat → Nat → Int64} {Rr : Nat → Nat → Option Nat} {D : zD} (N : Nat) (v_end : Int32) (e_v_end : I 128 20 = v_end) (v_allWord : (Nat → Int32)) (e_v_allWord : I 154 = v_allWord) (v_debtWord : (Nat → Int32)) (e_v_debtWord : I 161 = v_debtWord) (v_maxWord : (Nat → Int32)) (e_v_maxWord : I 164 = v_maxWord) (v_minWord : (Nat → Int32)) (e_v_minWord : I 163 = v_minWord) (v_paidWord : (Nat → Int32)) (e_v_paidWord : I 162 = v_paidWord) (v_penceWord : (Nat → Int32)) (e_v_penceWord : I 156 = v_penceWord) (v_poundsWord : (Nat → Int32)) (e_v_poundsWord : I 158 = v_poundsWord) (v_shillingsWord : (Nat → Int32)) (e_v_shillingsWord : I 157 = v_shillingsWord) (v_shireWord : (Nat → Int32)) (e_v_shireWord : I 155 = v_shireWord) (v_tape : (Nat → Int32)) (e_v_tape : I 143 = v_tape) (v_termWord : (Nat → Int32)) (e_v_termWord : I 159 = v_termWord) (v_yearWord : (Nat → Int32)) (e_v_yearWord : I 160 = v_yearWord) (y_v_at : Int32) (y_v_bad : Int32) (y_v_badPlace : Int32) (y_v_base : Int32) (y_v_coded : Int32) (y_v_ended : Int32) (y_v_open : Int32) (y_v_waits : Int32) (y_v_codes : (Nat → Int32)) (y_v_wait : (Nat → Int32)) (E : zE C RX12 cX12_fact 2 none ({ frames := 6, cells := 0, slots := 0, locals := 132 } : Room)) (hQ : C.Q = zQv C ({ frames := 6, cells := 0, slots := 0, locals := 132 } : Room) ((va_up (va_up (va_up I 128 (va_up (va_up (va_up (va_up (va_up (va_up (va_up (va_up (I 128) 19 y_v_at) 21 y_v_ended) 22 y_v_bad) 23 y_v_badPlace) 56 y_v_coded) 58 y_v_waits) 59 y_v_open) 60 y_v_base)) 173 y_v_codes) 174 y_v_wait), J, Rr, D)) (s1 : Int32) (v_at : Int32) (v_bad : Int32) (v_badPlace : Int32) (v_base : Int32) (v_coded : Int32) (v_ended : Int32) (v_open : Int32) (v_waits : Int32) (v_codes : (Nat → Int32)) (v_wait : (Nat → Int32)) (h : pM_fact_b128 N v_end v_allWord v_debtWord v_maxWord v_minWord v_paidWord v_penceWord v_poundsWord v_shillingsWord v_shireWord v_tape v_termWord v_yearWord s1 v_at v_bad v_badPlace v_base v_coded v_ended v_open v_waits v_codes v_wait = some (y_v_at, y_v_bad, y_v_badPlace, y_v_base, y_v_coded, y_v_ended, y_v_open, y_v_waits, y_v_codes, y_v_wait)) : zB C (0, 0) 128 [] [.int s1, .ref (C.X.1 + 128)] ((va_up (va_up (va_up I 128 (va_up (va_up (va_up (va_up (va_up (va_up (va_up (va_up (I 128) 19 v_at) 21 v_ended) 22 v_bad) 23 v_badPlace) 56 v_coded) 58 v_waits) 59 v_open) 60 v_base)) 173 v_codes) 174 v_wait), J, Rr, D) := by
  obtain ⟨v_coded_c10, v_codes_c10, hc_128, h⟩ := bd2_s h
  refine zb_cVv E [.int s1] 128 zy_X12_code zw_1616 (by decide) (zF_128 _ _ _ _) rfl (c_X12_code (va_up (va_up (va_up (va_up (va_up (va_up (va_up (va_up (I 128) 19 v_at) 21 v_ended) 22 v_bad) 23 v_badPlace) 56 v_coded) 58 v_waits) 59 v_open) 60 v_base) rfl v_coded rfl v_codes rfl hc_128) (by decide) rfl rfl (by first | decide | simp [Value.category]) dX12_fact_128 (cs2 := (0, 0)) rfl ?_
  refine zb_S (S2 := ((va_up (va_up (va_up I 128 (va_up (va_up (va_up (va_up (va_up (va_up (va_up (va_up (I 128) 19 v_at) 21 v_ended) 22 v_bad) 23 v_badPlace) 56 v_coded_c10) 58 v_waits) 59 v_open) 60 v_base)) 173 v_codes_c10) 174 v_wait), J, Rr, D)) (zS_eq ((zcgF ((zcgV (zn4 (by decide : (60 : Nat) ≠ 56) (by decide : (59 : Nat) ≠ 56) (by decide : (58 : Nat) ≠ 56))).trans (zn3 (by decide : (174 : Nat) ≠ 128) (by decide : (173 : Nat) ≠ 128)))).trans (zn2 (by decide : (174 : Nat) ≠ 173))) rfl) ?_
  obtain ⟨rfl, rfl, rfl, rfl, rfl, rfl, rfl, rfl, rfl, rfl⟩ := zinj10 h
  exact zb_vret E hQ rfl ⟨Nat.zero_le _, Nat.zero_le _⟩ dX12_fact_131
theorem c_X12_fact_b89 {C : zC} {I : Nat → Nat → Int32} {J : Nat → Nat → Int64} {Rr : Nat → Nat → Option Nat} {D : zD} (N : Nat) (v_end : Int32) (e_v_end : I 128 20 = v_end) (v_allWord : (Nat → Int32)) (e_v_allWord : I 154 = v_allWord) (v_debtWord : (Nat → Int32)) (e_v_debtWord : I 161 = v_debtWord) (v_maxWord : (Nat → Int32)) (e_v_maxWord : I 164 = v_maxWord) (v_minWord : (Nat → Int32)) (e_v_minWord : I 163 = v_minWord) (v_paidWord : (Nat → Int32)) (e_v_paidWord : I 162 = v_paidWord) (v_penceWord : (Nat → Int32)) (e_v_penceWord : I 156 = v_penceWord) (v_poundsWord : (Nat → Int32)) (e_v_poundsWord : I 158 = v_poundsWord) (v_shillingsWord : (Nat → Int32)) (e_v_shillingsWord : I 157 = v_shillingsWord) (v_shireWord : (Nat → Int32)) (e_v_shireWord : I 155 = v_shireWord) (v_tape : (Nat → Int32)) (e_v_tape : I 143 = v_tape) (v_termWord : (Nat → Int32)) (e_v_termWord : I 159 = v_termWord) (v_yearWord : (Nat → Int32)) (e_v_yearWord : I 160 = v_yearWord) (y_v_at : Int32) (y_v_bad : Int32) (y_v_badPlace : Int32) (y_v_base : Int32) (y_v_coded : Int32) (y_v_ended : Int32) (y_v_open : Int32) (y_v_waits : Int32) (y_v_codes : (Nat → Int32)) (y_v_wait : (Nat → Int32)) (E : zE C RX12 cX12_fact 2 none ({ frames := 6, cells := 0, slots := 0, locals := 132 } : Room)) (hQ : C.Q = zQv C ({ frames := 6, cells := 0, slots := 0, locals := 132 } : Room) ((va_up (va_up (va_up I 128 (va_up (va_up (va_up (va_up (va_up (va_up (va_up (va_up (I 128) 19 y_v_at) 21 y_v_ended) 22 y_v_bad) 23 y_v_badPlace) 56 y_v_coded) 58 y_v_waits) 59 y_v_open) 60 y_v_base)) 173 y_v_codes) 174 y_v_wait), J, Rr, D)) (x1 : Int32) (v_at : Int32) (v_bad : Int32) (v_badPlace : Int32) (v_base : Int32) (v_coded : Int32) (v_ended : Int32) (v_open : Int32) (v_waits : Int32) (v_codes : (Nat → Int32)) (v_wait : (Nat → Int32)) (h : pM_fact_b89 N v_end v_allWord v_debtWord v_maxWord v_minWord v_paidWord v_penceWord v_poundsWord v_shillingsWord v_shireWord v_tape v_termWord v_yearWord x1 v_at v_bad v_badPlace v_base v_coded v_ended v_open v_waits v_codes v_wait = some (y_v_at, y_v_bad, y_v_badPlace, y_v_base, y_v_coded, y_v_ended, y_v_open, y_v_waits, y_v_codes, y_v_wait)) : zB C (0, 0) 89 [(0, .ref (C.X.1 + 128)), (1, .int x1)] [] ((va_up (va_up (va_up I 128 (va_up (va_up (va_up (va_up (va_up (va_up (va_up (va_up (I 128) 19 v_at) 21 v_ended) 22 v_bad) 23 v_badPlace) 56 v_coded) 58 v_waits) 59 v_open) 60 v_base)) 173 v_codes) 174 v_wait), J, Rr, D) := by
  refine zb_aload_n E dX12_fact_89 0 rfl rfl ?_
  refine zb_dup E dX12_fact_90 rfl ?_
  refine zb_get E 128 (by decide) (zF_128 C.X) rfl zin12 19 (by decide) zw_1187 (v := .int v_at) rfl dX12_fact_91 ?_
  refine zb_iconst E dX12_fact_94 (v := 1) rfl ?_
  refine zb_iadd E dX12_fact_95 ?_
  refine zb_put E 128 (by decide) (zF_128 C.X) rfl zin12 19 (by decide) zw_1187 tyX12 tyX12_ok nmX12 rfl rfl rfl (I2 := (va_up (va_up (va_up I 128 (va_up (va_up (va_up (va_up (va_up (va_up (va_up (va_up (I 128) 19 (v_at + 1)) 21 v_ended) 22 v_bad) 23 v_badPlace) 56 v_coded) 58 v_waits) 59 v_open) 60 v_base)) 173 v_codes) 174 v_wait)) (J2 := J) ((zset12_19 C.X (va_up (va_up (va_up (va_up (va_up (va_up (va_up (va_up (I 128) 19 v_at) 21 v_ended) 22 v_bad) 23 v_badPlace) 56 v_coded) 58 v_waits) 59 v_open) 60 v_base) (J 128) (v_at + 1)).trans (congrArg (fun g => zf12 C.X g (J 128)) (zn8 (by decide : (60 : Nat) ≠ 19) (by decide : (59 : Nat) ≠ 19) (by decide : (58 : Nat) ≠ 19) (by decide : (56 : Nat) ≠ 19) (by decide : (23 : Nat) ≠ 19) (by decide : (22 : Nat) ≠ 19) (by decide : (21 : Nat) ≠ 19)))) (by rw [zflen12]; decide) (fun j hj => ⟨zup_cg (zup_cg ((zup_n hj).trans (zup_n hj).symm)), rfl⟩) dX12_fact_96 ?_
  refine zb_aload_n E dX12_fact_99 0 rfl rfl ?_
  obtain ⟨v_at_c9, v_bad_c9, v_badPlace_c9, v_base_c9, v_coded_c9, v_ended_c9, v_open_c9, v_waits_c9, v_codes_c9, v_wait_c9, hc_100, h⟩ := bd10_s h
  refine zb_cVv E [] 128 zy_X12_sums zw_1592 (by decide) (zF_128 _ _ _ _) rfl (c_X12_sums (va_up (va_up (va_up (va_up (va_up (va_up (va_up (va_up (I 128) 19 (v_at + 1)) 21 v_ended) 22 v_bad) 23 v_badPlace) 56 v_coded) 58 v_waits) 59 v_open) 60 v_base) rfl v_end (by exact e_v_end) v_debtWord (by exact e_v_debtWord) v_maxWord (by exact e_v_maxWord) v_minWord (by exact e_v_minWord) v_paidWord (by exact e_v_paidWord) v_penceWord (by exact e_v_penceWord) v_poundsWord (by exact e_v_poundsWord) v_shillingsWord (by exact e_v_shillingsWord) v_tape (by exact e_v_tape) v_termWord (by exact e_v_termWord) v_yearWord (by exact e_v_yearWord) (v_at + 1) rfl v_bad rfl v_badPlace rfl v_base rfl v_coded rfl v_ended rfl v_open rfl v_waits rfl v_codes rfl v_wait rfl hc_100) (by decide) rfl rfl (by first | decide | simp [Value.category]) dX12_fact_100 (cs2 := (0, 0)) rfl ?_
  refine zb_S (S2 := ((va_up (va_up (va_up I 128 (va_up (va_up (va_up (va_up (va_up (va_up (va_up (va_up (I 128) 19 v_at_c9) 21 v_ended_c9) 22 v_bad_c9) 23 v_badPlace_c9) 56 v_coded_c9) 58 v_waits_c9) 59 v_open_c9) 60 v_base_c9)) 173 v_codes_c9) 174 v_wait_c9), J, Rr, D)) (zS_eq ((zcgF ((zcgF ((zcgV ((zcgF ((zcgF ((zcgF ((zcgF ((zcgF ((zcgF ((zcgF (zn8 (by decide : (60 : Nat) ≠ 19) (by decide : (59 : Nat) ≠ 19) (by decide : (58 : Nat) ≠ 19) (by decide : (56 : Nat) ≠ 19) (by decide : (23 : Nat) ≠ 19) (by decide : (22 : Nat) ≠ 19) (by decide : (21 : Nat) ≠ 19))).trans (zn7 (by decide : (60 : Nat) ≠ 21) (by decide : (59 : Nat) ≠ 21) (by decide : (58 : Nat) ≠ 21) (by decide : (56 : Nat) ≠ 21) (by decide : (23 : Nat) ≠ 21) (by decide : (22 : Nat) ≠ 21)))).trans (zn6 (by decide : (60 : Nat) ≠ 22) (by decide : (59 : Nat) ≠ 22) (by decide : (58 : Nat) ≠ 22) (by decide : (56 : Nat) ≠ 22) (by decide : (23 : Nat) ≠ 22)))).trans (zn5 (by decide : (60 : Nat) ≠ 23) (by decide : (59 : Nat) ≠ 23) (by decide : (58 : Nat) ≠ 23) (by decide : (56 : Nat) ≠ 23)))).trans (zn4 (by decide : (60 : Nat) ≠ 56) (by decide : (59 : Nat) ≠ 56) (by decide : (58 : Nat) ≠ 56)))).trans (zn3 (by decide : (60 : Nat) ≠ 58) (by decide : (59 : Nat) ≠ 58)))).trans (zn2 (by decide : (60 : Nat) ≠ 59)))).trans zn1)).trans (zn3 (by decide : (174 : Nat) ≠ 128) (by decide : (173 : Nat) ≠ 128)))).trans (zn2 (by decide : (174 : Nat) ≠ 173)))).trans zn1) rfl) ?_
  refine zb_aload_n E dX12_fact_103 0 rfl rfl ?_
  refine zb_iload_n E dX12_fact_104 1 rfl rfl ?_
  refine zb_bipush E dX12_fact_105 (v := 60) rfl ?_
  refine zb_icmp_ne E dX12_fact_107 (tgt := 115) rfl (fun hc => ?_) (fun hc => ?_)
  · have h := if_f h hc
    refine zb_iload_n E dX12_fact_115 1 rfl rfl ?_
    refine zb_bipush E dX12_fact_116 (v := 62) rfl ?_
    refine zb_icmp_ne E dX12_fact_118 (tgt := 126) rfl (fun hc => ?_) (fun hc => ?_)
    · have h := if_f h hc
      refine zb_bipush E dX12_fact_126 (v := 13) rfl ?_
      refine zb_sub [] rfl ?_
      exact c_X12_fact_b128 N v_end e_v_end v_allWord e_v_allWord v_debtWord e_v_debtWord v_maxWord e_v_maxWord v_minWord e_v_minWord v_paidWord e_v_paidWord v_penceWord e_v_penceWord v_poundsWord e_v_poundsWord v_shillingsWord e_v_shillingsWord v_shireWord e_v_shireWord v_tape e_v_tape v_termWord e_v_termWord v_yearWord e_v_yearWord y_v_at y_v_bad y_v_badPlace y_v_base y_v_coded y_v_ended y_v_open y_v_waits y_v_codes y_v_wait E hQ 13 v_at_c9 v_bad_c9 v_badPlace_c9 v_base_c9 v_coded_c9 v_ended_c9 v_open_c9 v_waits_c9 v_codes_c9 v_wait_c9 h
    · have h := if_t h hc
      refine zb_bipush E dX12_fact_121 (v := 12) rfl ?_
      refine zb_goto E dX12_fact_123 (tgt := 128) rfl ?_
      refine zb_sub [] rfl ?_
      exact c_X12_fact_b128 N v_end e_v_end v_allWord e_v_allWord v_debtWord e_v_debtWord v_maxWord e_v_maxWord v_minWord e_v_minWord v_paidWord e_v_paidWord v_penceWord e_v_penceWord v_poundsWord e_v_poundsWord v_shillingsWord e_v_shillingsWord v_shireWord e_v_shireWord v_tape e_v_tape v_termWord e_v_termWord v_yearWord e_v_yearWord y_v_at y_v_bad y_v_badPlace y_v_base y_v_coded y_v_ended y_v_open y_v_waits y_v_codes y_v_wait E hQ 12 v_at_c9 v_bad_c9 v_badPlace_c9 v_base_c9 v_coded_c9 v_ended_c9 v_open_c9 v_waits_c9 v_codes_c9 v_wait_c9 h
  · have h := if_t h hc
    refine zb_bipush E dX12_fact_110 (v := 11) rfl ?_
    refine zb_goto E dX12_fact_112 (tgt := 128) rfl ?_
    refine zb_sub [] rfl ?_
    exact c_X12_fact_b128 N v_end e_v_end v_allWord e_v_allWord v_debtWord e_v_debtWord v_maxWord e_v_maxWord v_minWord e_v_minWord v_paidWord e_v_paidWord v_penceWord e_v_penceWord v_poundsWord e_v_poundsWord v_shillingsWord e_v_shillingsWord v_shireWord e_v_shireWord v_tape e_v_tape v_termWord e_v_termWord v_yearWord e_v_yearWord y_v_at y_v_bad y_v_badPlace y_v_base y_v_coded y_v_ended y_v_open y_v_waits y_v_codes y_v_wait E hQ 11 v_at_c9 v_bad_c9 v_badPlace_c9 v_base_c9 v_coded_c9 v_ended_c9 v_open_c9 v_waits_c9 v_codes_c9 v_wait_c9 h
theorem c_X12_fact_0 {C : zC} {I : Nat → Nat → Int32} {J : Nat → Nat → Int64} {Rr : Nat → Nat → Option Nat} {D : zD} (N : Nat) (v_end : Int32) (e_v_end : I 128 20 = v_end) (v_allWord : (Nat → Int32)) (e_v_allWord : I 154 = v_allWord) (v_debtWord : (Nat → Int32)) (e_v_debtWord : I 161 = v_debtWord) (v_maxWord : (Nat → Int32)) (e_v_maxWord : I 164 = v_maxWord) (v_minWord : (Nat → Int32)) (e_v_minWord : I 163 = v_minWord) (v_paidWord : (Nat → Int32)) (e_v_paidWord : I 162 = v_paidWord) (v_penceWord : (Nat → Int32)) (e_v_penceWord : I 156 = v_penceWord) (v_poundsWord : (Nat → Int32)) (e_v_poundsWord : I 158 = v_poundsWord) (v_shillingsWord : (Nat → Int32)) (e_v_shillingsWord : I 157 = v_shillingsWord) (v_shireWord : (Nat → Int32)) (e_v_shireWord : I 155 = v_shireWord) (v_tape : (Nat → Int32)) (e_v_tape : I 143 = v_tape) (v_termWord : (Nat → Int32)) (e_v_termWord : I 159 = v_termWord) (v_yearWord : (Nat → Int32)) (e_v_yearWord : I 160 = v_yearWord) (y_v_at : Int32) (y_v_bad : Int32) (y_v_badPlace : Int32) (y_v_base : Int32) (y_v_coded : Int32) (y_v_ended : Int32) (y_v_open : Int32) (y_v_waits : Int32) (y_v_codes : (Nat → Int32)) (y_v_wait : (Nat → Int32)) (E : zE C RX12 cX12_fact 2 none ({ frames := 6, cells := 0, slots := 0, locals := 132 } : Room)) (hQ : C.Q = zQv C ({ frames := 6, cells := 0, slots := 0, locals := 132 } : Room) ((va_up (va_up (va_up I 128 (va_up (va_up (va_up (va_up (va_up (va_up (va_up (va_up (I 128) 19 y_v_at) 21 y_v_ended) 22 y_v_bad) 23 y_v_badPlace) 56 y_v_coded) 58 y_v_waits) 59 y_v_open) 60 y_v_base)) 173 y_v_codes) 174 y_v_wait), J, Rr, D)) (v_at : Int32) (v_bad : Int32) (v_badPlace : Int32) (v_base : Int32) (v_coded : Int32) (v_ended : Int32) (v_open : Int32) (v_waits : Int32) (v_codes : (Nat → Int32)) (v_wait : (Nat → Int32)) (h : pM_fact N v_at v_bad v_badPlace v_base v_coded v_end v_ended v_open v_waits v_allWord v_codes v_debtWord v_maxWord v_minWord v_paidWord v_penceWord v_poundsWord v_shillingsWord v_shireWord v_tape v_termWord v_wait v_yearWord = some (y_v_at, y_v_bad, y_v_badPlace, y_v_base, y_v_coded, y_v_ended, y_v_open, y_v_waits, y_v_codes, y_v_wait)) : zB C (0, 0) 0 [(0, .ref (C.X.1 + 128))] [] ((va_up (va_up (va_up I 128 (va_up (va_up (va_up (va_up (va_up (va_up (va_up (va_up (I 128) 19 v_at) 21 v_ended) 22 v_bad) 23 v_badPlace) 56 v_coded) 58 v_waits) 59 v_open) 60 v_base)) 173 v_codes) 174 v_wait), J, Rr, D) := by
  refine zb_aload_n E dX12_fact_0 0 rfl rfl ?_
  refine zb_aload_n E dX12_fact_1 0 rfl rfl ?_
  refine zb_get E 128 (by decide) (zF_128 C.X) rfl zin12 36 (by decide) zw_1204 (v := .ref (C.X.1 + 154)) rfl dX12_fact_2 ?_
  obtain ⟨rc1, v_at_c1, v_ended_c1, hc_5, h⟩ := bd3_s h
  refine zb_cVi E [.ref (C.X.1 + 154)] 128 zy_X12_takes zw_1581 (by decide) (zF_128 _ _ _ _) rfl (c_X12_takes 154 (by decide) zF_154 (by decide) (va_up (va_up (va_up (va_up (va_up (va_up (va_up (va_up (I 128) 19 v_at) 21 v_ended) 22 v_bad) 23 v_badPlace) 56 v_coded) 58 v_waits) 59 v_open) 60 v_base) rfl v_allWord (by exact e_v_allWord) v_bad rfl v_end (by exact e_v_end) v_tape (by exact e_v_tape) v_at rfl v_ended rfl hc_5) (by decide) rfl rfl (by first | decide | simp [Value.category]) dX12_fact_5 (cs2 := (0, 0)) rfl ?_
  refine zb_S (S2 := ((va_up (va_up (va_up I 128 (va_up (va_up (va_up (va_up (va_up (va_up (va_up (va_up (I 128) 19 v_at_c1) 21 v_ended_c1) 22 v_bad) 23 v_badPlace) 56 v_coded) 58 v_waits) 59 v_open) 60 v_base)) 173 v_codes) 174 v_wait), J, Rr, D)) (zS_eq ((zcgV ((zcgF (zn8 (by decide : (60 : Nat) ≠ 19) (by decide : (59 : Nat) ≠ 19) (by decide : (58 : Nat) ≠ 19) (by decide : (56 : Nat) ≠ 19) (by decide : (23 : Nat) ≠ 19) (by decide : (22 : Nat) ≠ 19) (by decide : (21 : Nat) ≠ 19))).trans (zn7 (by decide : (60 : Nat) ≠ 21) (by decide : (59 : Nat) ≠ 21) (by decide : (58 : Nat) ≠ 21) (by decide : (56 : Nat) ≠ 21) (by decide : (23 : Nat) ≠ 21) (by decide : (22 : Nat) ≠ 21)))).trans (zn3 (by decide : (174 : Nat) ≠ 128) (by decide : (173 : Nat) ≠ 128))) rfl) ?_
  refine zb_if_eq E dX12_fact_8 (tgt := 18) rfl (fun hc => ?_) (fun hc => ?_)
  · have h := if_t h hc
    refine zb_aload_n E dX12_fact_18 0 rfl rfl ?_
    refine zb_aload_n E dX12_fact_19 0 rfl rfl ?_
    refine zb_get E 128 (by decide) (zF_128 C.X) rfl zin12 37 (by decide) zw_1205 (v := .ref (C.X.1 + 155)) rfl dX12_fact_20 ?_
    obtain ⟨rc2, v_at_c2, v_ended_c2, hc_23, h⟩ := bd3_s h
    refine zb_cVi E [.ref (C.X.1 + 155)] 128 zy_X12_takes zw_1581 (by decide) (zF_128 _ _ _ _) rfl (c_X12_takes 155 (by decide) zF_155 (by decide) (va_up (va_up (va_up (va_up (va_up (va_up (va_up (va_up (I 128) 19 v_at_c1) 21 v_ended_c1) 22 v_bad) 23 v_badPlace) 56 v_coded) 58 v_waits) 59 v_open) 60 v_base) rfl v_shireWord (by exact e_v_shireWord) v_bad rfl v_end (by exact e_v_end) v_tape (by exact e_v_tape) v_at_c1 rfl v_ended_c1 rfl hc_23) (by decide) rfl rfl (by first | decide | simp [Value.category]) dX12_fact_23 (cs2 := (0, 0)) rfl ?_
    refine zb_S (S2 := ((va_up (va_up (va_up I 128 (va_up (va_up (va_up (va_up (va_up (va_up (va_up (va_up (I 128) 19 v_at_c2) 21 v_ended_c2) 22 v_bad) 23 v_badPlace) 56 v_coded) 58 v_waits) 59 v_open) 60 v_base)) 173 v_codes) 174 v_wait), J, Rr, D)) (zS_eq ((zcgV ((zcgF (zn8 (by decide : (60 : Nat) ≠ 19) (by decide : (59 : Nat) ≠ 19) (by decide : (58 : Nat) ≠ 19) (by decide : (56 : Nat) ≠ 19) (by decide : (23 : Nat) ≠ 19) (by decide : (22 : Nat) ≠ 19) (by decide : (21 : Nat) ≠ 19))).trans (zn7 (by decide : (60 : Nat) ≠ 21) (by decide : (59 : Nat) ≠ 21) (by decide : (58 : Nat) ≠ 21) (by decide : (56 : Nat) ≠ 21) (by decide : (23 : Nat) ≠ 21) (by decide : (22 : Nat) ≠ 21)))).trans (zn3 (by decide : (174 : Nat) ≠ 128) (by decide : (173 : Nat) ≠ 128))) rfl) ?_
    refine zb_if_eq E dX12_fact_26 (tgt := 44) rfl (fun hc => ?_) (fun hc => ?_)
    · have h := if_t h hc
      refine zb_aload_n E dX12_fact_44 0 rfl rfl ?_
      obtain ⟨v_at_c3, v_bad_c3, v_badPlace_c3, v_base_c3, v_coded_c3, v_ended_c3, v_open_c3, v_waits_c3, v_codes_c3, v_wait_c3, hc_45, h⟩ := bd10_s h
      refine zb_cVv E [] 128 zy_X12_sums zw_1592 (by decide) (zF_128 _ _ _ _) rfl (c_X12_sums (va_up (va_up (va_up (va_up (va_up (va_up (va_up (va_up (I 128) 19 v_at_c2) 21 v_ended_c2) 22 v_bad) 23 v_badPlace) 56 v_coded) 58 v_waits) 59 v_open) 60 v_base) rfl v_end (by exact e_v_end) v_debtWord (by exact e_v_debtWord) v_maxWord (by exact e_v_maxWord) v_minWord (by exact e_v_minWord) v_paidWord (by exact e_v_paidWord) v_penceWord (by exact e_v_penceWord) v_poundsWord (by exact e_v_poundsWord) v_shillingsWord (by exact e_v_shillingsWord) v_tape (by exact e_v_tape) v_termWord (by exact e_v_termWord) v_yearWord (by exact e_v_yearWord) v_at_c2 rfl v_bad rfl v_badPlace rfl v_base rfl v_coded rfl v_ended_c2 rfl v_open rfl v_waits rfl v_codes rfl v_wait rfl hc_45) (by decide) rfl rfl (by first | decide | simp [Value.category]) dX12_fact_45 (cs2 := (0, 0)) rfl ?_
      refine zb_S (S2 := ((va_up (va_up (va_up I 128 (va_up (va_up (va_up (va_up (va_up (va_up (va_up (va_up (I 128) 19 v_at_c3) 21 v_ended_c3) 22 v_bad_c3) 23 v_badPlace_c3) 56 v_coded_c3) 58 v_waits_c3) 59 v_open_c3) 60 v_base_c3)) 173 v_codes_c3) 174 v_wait_c3), J, Rr, D)) (zS_eq ((zcgF ((zcgF ((zcgV ((zcgF ((zcgF ((zcgF ((zcgF ((zcgF ((zcgF ((zcgF (zn8 (by decide : (60 : Nat) ≠ 19) (by decide : (59 : Nat) ≠ 19) (by decide : (58 : Nat) ≠ 19) (by decide : (56 : Nat) ≠ 19) (by decide : (23 : Nat) ≠ 19) (by decide : (22 : Nat) ≠ 19) (by decide : (21 : Nat) ≠ 19))).trans (zn7 (by decide : (60 : Nat) ≠ 21) (by decide : (59 : Nat) ≠ 21) (by decide : (58 : Nat) ≠ 21) (by decide : (56 : Nat) ≠ 21) (by decide : (23 : Nat) ≠ 21) (by decide : (22 : Nat) ≠ 21)))).trans (zn6 (by decide : (60 : Nat) ≠ 22) (by decide : (59 : Nat) ≠ 22) (by decide : (58 : Nat) ≠ 22) (by decide : (56 : Nat) ≠ 22) (by decide : (23 : Nat) ≠ 22)))).trans (zn5 (by decide : (60 : Nat) ≠ 23) (by decide : (59 : Nat) ≠ 23) (by decide : (58 : Nat) ≠ 23) (by decide : (56 : Nat) ≠ 23)))).trans (zn4 (by decide : (60 : Nat) ≠ 56) (by decide : (59 : Nat) ≠ 56) (by decide : (58 : Nat) ≠ 56)))).trans (zn3 (by decide : (60 : Nat) ≠ 58) (by decide : (59 : Nat) ≠ 58)))).trans (zn2 (by decide : (60 : Nat) ≠ 59)))).trans zn1)).trans (zn3 (by decide : (174 : Nat) ≠ 128) (by decide : (173 : Nat) ≠ 128)))).trans (zn2 (by decide : (174 : Nat) ≠ 173)))).trans zn1) rfl) ?_
      refine zb_aload_n E dX12_fact_48 0 rfl rfl ?_
      refine zb_get E 128 (by decide) (zF_128 C.X) rfl zin12 22 (by decide) zw_1190 (v := .int v_bad_c3) rfl dX12_fact_49 ?_
      refine zb_if_eq E dX12_fact_52 (tgt := 56) rfl (fun hc => ?_) (fun hc => ?_)
      · have h := if_t h hc
        refine zb_aload_n E dX12_fact_56 0 rfl rfl ?_
        obtain ⟨rc4, v_at_c4, hc_57, h⟩ := bd2_s h
        refine zb_cVi E [] 128 zy_X12_look zw_1569 (by decide) (zF_128 _ _ _ _) rfl (c_X12_look (va_up (va_up (va_up (va_up (va_up (va_up (va_up (va_up (I 128) 19 v_at_c3) 21 v_ended_c3) 22 v_bad_c3) 23 v_badPlace_c3) 56 v_coded_c3) 58 v_waits_c3) 59 v_open_c3) 60 v_base_c3) rfl v_end (by exact e_v_end) v_tape (by exact e_v_tape) v_at_c3 rfl hc_57) (by decide) rfl rfl (by first | decide | simp [Value.category]) dX12_fact_57 (cs2 := (0, 0)) rfl ?_
        refine zb_S (S2 := ((va_up (va_up (va_up I 128 (va_up (va_up (va_up (va_up (va_up (va_up (va_up (va_up (I 128) 19 v_at_c4) 21 v_ended_c3) 22 v_bad_c3) 23 v_badPlace_c3) 56 v_coded_c3) 58 v_waits_c3) 59 v_open_c3) 60 v_base_c3)) 173 v_codes_c3) 174 v_wait_c3), J, Rr, D)) (zS_eq ((zcgV (zn8 (by decide : (60 : Nat) ≠ 19) (by decide : (59 : Nat) ≠ 19) (by decide : (58 : Nat) ≠ 19) (by decide : (56 : Nat) ≠ 19) (by decide : (23 : Nat) ≠ 19) (by decide : (22 : Nat) ≠ 19) (by decide : (21 : Nat) ≠ 19))).trans (zn3 (by decide : (174 : Nat) ≠ 128) (by decide : (173 : Nat) ≠ 128))) rfl) ?_
        refine zb_istore_n E dX12_fact_60 rfl (by decide) (lv2 := [(1, .int rc4), (0, .ref (C.X.1 + 128))]) rfl ?_
        refine zb_iload_n E dX12_fact_61 0 rfl rfl ?_
        refine zb_bipush E dX12_fact_62 (v := 60) rfl ?_
        refine zb_icmp_eq E dX12_fact_64 (tgt := 89) rfl (fun hc => ?_) (fun hc => ?_)
        · have h := if_t h hc
          refine zb_sub [1, 0] rfl ?_
          exact c_X12_fact_b89 N v_end e_v_end v_allWord e_v_allWord v_debtWord e_v_debtWord v_maxWord e_v_maxWord v_minWord e_v_minWord v_paidWord e_v_paidWord v_penceWord e_v_penceWord v_poundsWord e_v_poundsWord v_shillingsWord e_v_shillingsWord v_shireWord e_v_shireWord v_tape e_v_tape v_termWord e_v_termWord v_yearWord e_v_yearWord y_v_at y_v_bad y_v_badPlace y_v_base y_v_coded y_v_ended y_v_open y_v_waits y_v_codes y_v_wait E hQ rc4 v_at_c4 v_bad_c3 v_badPlace_c3 v_base_c3 v_coded_c3 v_ended_c3 v_open_c3 v_waits_c3 v_codes_c3 v_wait_c3 h
        · have h := if_f h hc
          refine zb_iload_n E dX12_fact_67 0 rfl rfl ?_
          refine zb_bipush E dX12_fact_68 (v := 62) rfl ?_
          refine zb_icmp_eq E dX12_fact_70 (tgt := 89) rfl (fun hc => ?_) (fun hc => ?_)
          · have h := if_t h hc
            refine zb_sub [1, 0] rfl ?_
            exact c_X12_fact_b89 N v_end e_v_end v_allWord e_v_allWord v_debtWord e_v_debtWord v_maxWord e_v_maxWord v_minWord e_v_minWord v_paidWord e_v_paidWord v_penceWord e_v_penceWord v_poundsWord e_v_poundsWord v_shillingsWord e_v_shillingsWord v_shireWord e_v_shireWord v_tape e_v_tape v_termWord e_v_termWord v_yearWord e_v_yearWord y_v_at y_v_bad y_v_badPlace y_v_base y_v_coded y_v_ended y_v_open y_v_waits y_v_codes y_v_wait E hQ rc4 v_at_c4 v_bad_c3 v_badPlace_c3 v_base_c3 v_coded_c3 v_ended_c3 v_open_c3 v_waits_c3 v_codes_c3 v_wait_c3 h
          · have h := if_f h hc
            refine zb_iload_n E dX12_fact_73 0 rfl rfl ?_
            refine zb_bipush E dX12_fact_74 (v := 61) rfl ?_
            refine zb_icmp_eq E dX12_fact_76 (tgt := 89) rfl (fun hc => ?_) (fun hc => ?_)
            · have h := if_t h hc
              refine zb_sub [1, 0] rfl ?_
              exact c_X12_fact_b89 N v_end e_v_end v_allWord e_v_allWord v_debtWord e_v_debtWord v_maxWord e_v_maxWord v_minWord e_v_minWord v_paidWord e_v_paidWord v_penceWord e_v_penceWord v_poundsWord e_v_poundsWord v_shillingsWord e_v_shillingsWord v_shireWord e_v_shireWord v_tape e_v_tape v_termWord e_v_termWord v_yearWord e_v_yearWord y_v_at y_v_bad y_v_badPlace y_v_base y_v_coded y_v_ended y_v_open y_v_waits y_v_codes y_v_wait E hQ rc4 v_at_c4 v_bad_c3 v_badPlace_c3 v_base_c3 v_coded_c3 v_ended_c3 v_open_c3 v_waits_c3 v_codes_c3 v_wait_c3 h
            · have h := if_f h hc
              refine zb_aload_n E dX12_fact_79 1 rfl rfl ?_
              refine zb_iconst E dX12_fact_80 (v := 1) rfl ?_
              refine zb_aload_n E dX12_fact_81 1 rfl rfl ?_
              refine zb_get E 128 (by decide) (zF_128 C.X) rfl zin12 19 (by decide) zw_1187 (v := .int v_at_c4) rfl dX12_fact_82 ?_
              obtain ⟨v_bad_c5, v_badPlace_c5, hc_85, h⟩ := bd2_s h
              refine zb_cVv E [.int 1, .int v_at_c4] 128 zy_X12_fail zw_1577 (by decide) (zF_128 _ _ _ _) rfl (c_X12_fail (va_up (va_up (va_up (va_up (va_up (va_up (va_up (va_up (I 128) 19 v_at_c4) 21 v_ended_c3) 22 v_bad_c3) 23 v_badPlace_c3) 56 v_coded_c3) 58 v_waits_c3) 59 v_open_c3) 60 v_base_c3) rfl v_bad_c3 rfl v_badPlace_c3 rfl hc_85) (by decide) rfl rfl (by first | decide | simp [Value.category]) dX12_fact_85 (cs2 := (0, 0)) rfl ?_
              refine zb_S (S2 := ((va_up (va_up (va_up I 128 (va_up (va_up (va_up (va_up (va_up (va_up (va_up (va_up (I 128) 19 v_at_c4) 21 v_ended_c3) 22 v_bad_c5) 23 v_badPlace_c5) 56 v_coded_c3) 58 v_waits_c3) 59 v_open_c3) 60 v_base_c3)) 173 v_codes_c3) 174 v_wait_c3), J, Rr, D)) (zS_eq ((zcgV ((zcgF (zn6 (by decide : (60 : Nat) ≠ 22) (by decide : (59 : Nat) ≠ 22) (by decide : (58 : Nat) ≠ 22) (by decide : (56 : Nat) ≠ 22) (by decide : (23 : Nat) ≠ 22))).trans (zn5 (by decide : (60 : Nat) ≠ 23) (by decide : (59 : Nat) ≠ 23) (by decide : (58 : Nat) ≠ 23) (by decide : (56 : Nat) ≠ 23)))).trans (zn3 (by decide : (174 : Nat) ≠ 128) (by decide : (173 : Nat) ≠ 128))) rfl) ?_
              obtain ⟨rfl, rfl, rfl, rfl, rfl, rfl, rfl, rfl, rfl, rfl⟩ := zinj10 h
              exact zb_vret E hQ rfl ⟨Nat.zero_le _, Nat.zero_le _⟩ dX12_fact_88
      · have h := if_f h hc
        obtain ⟨rfl, rfl, rfl, rfl, rfl, rfl, rfl, rfl, rfl, rfl⟩ := zinj10 h
        exact zb_vret E hQ rfl ⟨Nat.zero_le _, Nat.zero_le _⟩ dX12_fact_55
    · have h := if_f h hc
      refine zb_aload_n E dX12_fact_29 0 rfl rfl ?_
      refine zb_bipush E dX12_fact_30 (v := 100) rfl ?_
      refine zb_aload_n E dX12_fact_32 0 rfl rfl ?_
      refine zb_iconst E dX12_fact_33 (v := 0) rfl ?_
      refine zb_bipush E dX12_fact_34 (v := 7) rfl ?_
      obtain ⟨rc6, v_at_c6, v_bad_c6, v_badPlace_c6, v_ended_c6, hc_36, h⟩ := bd5_s h
      refine zb_cVi E [.int 0, .int 7] 128 zy_X12_number zw_1625 (by decide) (zF_128 _ _ _ _) rfl (c_X12_number (va_up (va_up (va_up (va_up (va_up (va_up (va_up (va_up (I 128) 19 v_at_c2) 21 v_ended_c2) 22 v_bad) 23 v_badPlace) 56 v_coded) 58 v_waits) 59 v_open) 60 v_base) rfl v_end (by exact e_v_end) v_tape (by exact e_v_tape) v_at_c2 rfl v_bad rfl v_badPlace rfl v_ended_c2 rfl hc_36) (by decide) rfl rfl (by first | decide | simp [Value.category]) dX12_fact_36 (cs2 := (0, 0)) rfl ?_
      refine zb_S (S2 := ((va_up (va_up (va_up I 128 (va_up (va_up (va_up (va_up (va_up (va_up (va_up (va_up (I 128) 19 v_at_c6) 21 v_ended_c6) 22 v_bad_c6) 23 v_badPlace_c6) 56 v_coded) 58 v_waits) 59 v_open) 60 v_base)) 173 v_codes) 174 v_wait), J, Rr, D)) (zS_eq ((zcgV ((zcgF ((zcgF ((zcgF (zn8 (by decide : (60 : Nat) ≠ 19) (by decide : (59 : Nat) ≠ 19) (by decide : (58 : Nat) ≠ 19) (by decide : (56 : Nat) ≠ 19) (by decide : (23 : Nat) ≠ 19) (by decide : (22 : Nat) ≠ 19) (by decide : (21 : Nat) ≠ 19))).trans (zn7 (by decide : (60 : Nat) ≠ 21) (by decide : (59 : Nat) ≠ 21) (by decide : (58 : Nat) ≠ 21) (by decide : (56 : Nat) ≠ 21) (by decide : (23 : Nat) ≠ 21) (by decide : (22 : Nat) ≠ 21)))).trans (zn6 (by decide : (60 : Nat) ≠ 22) (by decide : (59 : Nat) ≠ 22) (by decide : (58 : Nat) ≠ 22) (by decide : (56 : Nat) ≠ 22) (by decide : (23 : Nat) ≠ 22)))).trans (zn5 (by decide : (60 : Nat) ≠ 23) (by decide : (59 : Nat) ≠ 23) (by decide : (58 : Nat) ≠ 23) (by decide : (56 : Nat) ≠ 23)))).trans (zn3 (by decide : (174 : Nat) ≠ 128) (by decide : (173 : Nat) ≠ 128))) rfl) ?_
      refine zb_iadd E dX12_fact_39 ?_
      obtain ⟨v_coded_c7, v_codes_c7, hc_40, h⟩ := bd2_s h
      refine zb_cVv E [.int (100 + rc6)] 128 zy_X12_code zw_1616 (by decide) (zF_128 _ _ _ _) rfl (c_X12_code (va_up (va_up (va_up (va_up (va_up (va_up (va_up (va_up (I 128) 19 v_at_c6) 21 v_ended_c6) 22 v_bad_c6) 23 v_badPlace_c6) 56 v_coded) 58 v_waits) 59 v_open) 60 v_base) rfl v_coded rfl v_codes rfl hc_40) (by decide) rfl rfl (by first | decide | simp [Value.category]) dX12_fact_40 (cs2 := (0, 0)) rfl ?_
      refine zb_S (S2 := ((va_up (va_up (va_up I 128 (va_up (va_up (va_up (va_up (va_up (va_up (va_up (va_up (I 128) 19 v_at_c6) 21 v_ended_c6) 22 v_bad_c6) 23 v_badPlace_c6) 56 v_coded_c7) 58 v_waits) 59 v_open) 60 v_base)) 173 v_codes_c7) 174 v_wait), J, Rr, D)) (zS_eq ((zcgF ((zcgV (zn4 (by decide : (60 : Nat) ≠ 56) (by decide : (59 : Nat) ≠ 56) (by decide : (58 : Nat) ≠ 56))).trans (zn3 (by decide : (174 : Nat) ≠ 128) (by decide : (173 : Nat) ≠ 128)))).trans (zn2 (by decide : (174 : Nat) ≠ 173))) rfl) ?_
      obtain ⟨rfl, rfl, rfl, rfl, rfl, rfl, rfl, rfl, rfl, rfl⟩ := zinj10 h
      exact zb_vret E hQ rfl ⟨Nat.zero_le _, Nat.zero_le _⟩ dX12_fact_43
  · have h := if_f h hc
    refine zb_aload_n E dX12_fact_11 0 rfl rfl ?_
    refine zb_bipush E dX12_fact_12 (v := 17) rfl ?_
    obtain ⟨v_coded_c8, v_codes_c8, hc_14, h⟩ := bd2_s h
    refine zb_cVv E [.int 17] 128 zy_X12_code zw_1616 (by decide) (zF_128 _ _ _ _) rfl (c_X12_code (va_up (va_up (va_up (va_up (va_up (va_up (va_up (va_up (I 128) 19 v_at_c1) 21 v_ended_c1) 22 v_bad) 23 v_badPlace) 56 v_coded) 58 v_waits) 59 v_open) 60 v_base) rfl v_coded rfl v_codes rfl hc_14) (by decide) rfl rfl (by first | decide | simp [Value.category]) dX12_fact_14 (cs2 := (0, 0)) rfl ?_
    refine zb_S (S2 := ((va_up (va_up (va_up I 128 (va_up (va_up (va_up (va_up (va_up (va_up (va_up (va_up (I 128) 19 v_at_c1) 21 v_ended_c1) 22 v_bad) 23 v_badPlace) 56 v_coded_c8) 58 v_waits) 59 v_open) 60 v_base)) 173 v_codes_c8) 174 v_wait), J, Rr, D)) (zS_eq ((zcgF ((zcgV (zn4 (by decide : (60 : Nat) ≠ 56) (by decide : (59 : Nat) ≠ 56) (by decide : (58 : Nat) ≠ 56))).trans (zn3 (by decide : (174 : Nat) ≠ 128) (by decide : (173 : Nat) ≠ 128)))).trans (zn2 (by decide : (174 : Nat) ≠ 173))) rfl) ?_
    obtain ⟨rfl, rfl, rfl, rfl, rfl, rfl, rfl, rfl, rfl, rfl⟩ := zinj10 h
    exact zb_vret E hQ rfl ⟨Nat.zero_le _, Nat.zero_le _⟩ dX12_fact_17
theorem c_X12_fact {l : Launch} {X : zX} {I : Nat → Nat → Int32} {J : Nat → Nat → Int64} {Rr : Nat → Nat → Option Nat} {D : zD} {N : Nat} (oI128 : Nat → Int32) (eoI128 : I 128 = oI128) (v_end : Int32) (e_v_end : I 128 20 = v_end) (v_allWord : (Nat → Int32)) (e_v_allWord : I 154 = v_allWord) (v_debtWord : (Nat → Int32)) (e_v_debtWord : I 161 = v_debtWord) (v_maxWord : (Nat → Int32)) (e_v_maxWord : I 164 = v_maxWord) (v_minWord : (Nat → Int32)) (e_v_minWord : I 163 = v_minWord) (v_paidWord : (Nat → Int32)) (e_v_paidWord : I 162 = v_paidWord) (v_penceWord : (Nat → Int32)) (e_v_penceWord : I 156 = v_penceWord) (v_poundsWord : (Nat → Int32)) (e_v_poundsWord : I 158 = v_poundsWord) (v_shillingsWord : (Nat → Int32)) (e_v_shillingsWord : I 157 = v_shillingsWord) (v_shireWord : (Nat → Int32)) (e_v_shireWord : I 155 = v_shireWord) (v_tape : (Nat → Int32)) (e_v_tape : I 143 = v_tape) (v_termWord : (Nat → Int32)) (e_v_termWord : I 159 = v_termWord) (v_yearWord : (Nat → Int32)) (e_v_yearWord : I 160 = v_yearWord) (v_at : Int32) (e_v_at : I 128 19 = v_at) (v_bad : Int32) (e_v_bad : I 128 22 = v_bad) (v_badPlace : Int32) (e_v_badPlace : I 128 23 = v_badPlace) (v_base : Int32) (e_v_base : I 128 60 = v_base) (v_coded : Int32) (e_v_coded : I 128 56 = v_coded) (v_ended : Int32) (e_v_ended : I 128 21 = v_ended) (v_open : Int32) (e_v_open : I 128 59 = v_open) (v_waits : Int32) (e_v_waits : I 128 58 = v_waits) (v_codes : (Nat → Int32)) (e_v_codes : I 173 = v_codes) (v_wait : (Nat → Int32)) (e_v_wait : I 174 = v_wait) {y_v_at : Int32} {y_v_bad : Int32} {y_v_badPlace : Int32} {y_v_base : Int32} {y_v_coded : Int32} {y_v_ended : Int32} {y_v_open : Int32} {y_v_waits : Int32} {y_v_codes : (Nat → Int32)} {y_v_wait : (Nat → Int32)} (h : pM_fact N v_at v_bad v_badPlace v_base v_coded v_end v_ended v_open v_waits v_allWord v_codes v_debtWord v_maxWord v_minWord v_paidWord v_penceWord v_poundsWord v_shillingsWord v_shireWord v_tape v_termWord v_wait v_yearWord = some (y_v_at, y_v_bad, y_v_badPlace, y_v_base, y_v_coded, y_v_ended, y_v_open, y_v_waits, y_v_codes, y_v_wait)) : zMv l yX12_fact cX12_fact 2 none ({ frames := 6, cells := 0, slots := 0, locals := 132 } : Room) X [.ref (X.1 + 128)] (I, J, Rr, D) ((va_up (va_up (va_up I 128 (va_up (va_up (va_up (va_up (va_up (va_up (va_up (va_up oI128 19 y_v_at) 21 y_v_ended) 22 y_v_bad) 23 y_v_badPlace) 56 y_v_coded) 58 y_v_waits) 59 y_v_open) 60 y_v_base)) 173 y_v_codes) 174 y_v_wait), J, Rr, D) := by
  subst eoI128
  refine zMv.of (by decide) (Nat.le_of_ble_eq_true rfl) (fun C E hl hX hQ => ?_)
  subst hl
  subst hX
  have eI0 : (va_up (va_up (va_up I 128 (va_up (va_up (va_up (va_up (va_up (va_up (va_up (va_up (I 128) 19 v_at) 21 v_ended) 22 v_bad) 23 v_badPlace) 56 v_coded) 58 v_waits) 59 v_open) 60 v_base)) 173 v_codes) 174 v_wait) = I := by rw [zup_idE e_v_at, zup_idE e_v_ended, zup_idE e_v_bad, zup_idE e_v_badPlace, zup_idE e_v_coded, zup_idE e_v_waits, zup_idE e_v_open, zup_idE e_v_base, zup_id, zup_idE e_v_codes, zup_idE e_v_wait]
  have eJ0 : J = J := rfl
  refine zb_S (S2 := ((va_up (va_up (va_up I 128 (va_up (va_up (va_up (va_up (va_up (va_up (va_up (va_up (I 128) 19 v_at) 21 v_ended) 22 v_bad) 23 v_badPlace) 56 v_coded) 58 v_waits) 59 v_open) 60 v_base)) 173 v_codes) 174 v_wait), J, Rr, D)) (zS_eq eI0.symm eJ0.symm) ?_
  exact c_X12_fact_0 N v_end e_v_end v_allWord e_v_allWord v_debtWord e_v_debtWord v_maxWord e_v_maxWord v_minWord e_v_minWord v_paidWord e_v_paidWord v_penceWord e_v_penceWord v_poundsWord e_v_poundsWord v_shillingsWord e_v_shillingsWord v_shireWord e_v_shireWord v_tape e_v_tape v_termWord e_v_termWord v_yearWord e_v_yearWord y_v_at y_v_bad y_v_badPlace y_v_base y_v_coded y_v_ended y_v_open y_v_waits y_v_codes y_v_wait E hQ v_at v_bad v_badPlace v_base v_coded v_ended v_open v_waits v_codes v_wait h
