set_option maxHeartbeats 4000000
set_option maxRecDepth 100000
-- ChequeredCloth$Known.addPayment
theorem dX5_addPayment_0 : decode cX5_addPayment 0 = .ok (.aload_n 0, 1) := by decide +kernel
theorem dX5_addPayment_1 : decode cX5_addPayment 1 = .ok (.getfield 24, 3) := by decide +kernel
theorem dX5_addPayment_4 : decode cX5_addPayment 4 = .ok (.iload_n 1, 1) := by decide +kernel
theorem dX5_addPayment_5 : decode cX5_addPayment 5 = .ok (.invokevirtual 67, 3) := by decide +kernel
theorem dX5_addPayment_8 : decode cX5_addPayment 8 = .ok (.ifCond .eq 29, 3) := by decide +kernel
theorem dX5_addPayment_11 : decode cX5_addPayment 11 = .ok (.iload_n 2, 1) := by decide +kernel
theorem dX5_addPayment_12 : decode cX5_addPayment 12 = .ok (.invokestatic 57, 3) := by decide +kernel
theorem dX5_addPayment_15 : decode cX5_addPayment 15 = .ok (.ifCond .eq 22, 3) := by decide +kernel
theorem dX5_addPayment_18 : decode cX5_addPayment 18 = .ok (.aload_n 0, 1) := by decide +kernel
theorem dX5_addPayment_19 : decode cX5_addPayment 19 = .ok (.getfield 21, 3) := by decide +kernel
theorem dX5_addPayment_22 : decode cX5_addPayment 22 = .ok (.iload_n 1, 1) := by decide +kernel
theorem dX5_addPayment_23 : decode cX5_addPayment 23 = .ok (.aload_n 0, 1) := by decide +kernel
theorem dX5_addPayment_24 : decode cX5_addPayment 24 = .ok (.getfield 18, 3) := by decide +kernel
theorem dX5_addPayment_27 : decode cX5_addPayment 27 = .ok (.iload_n 2, 1) := by decide +kernel
theorem dX5_addPayment_28 : decode cX5_addPayment 28 = .ok (.iaload, 1) := by decide +kernel
theorem dX5_addPayment_29 : decode cX5_addPayment 29 = .ok (.iastore, 1) := by decide +kernel
theorem dX5_addPayment_30 : decode cX5_addPayment 30 = .ok (.aload_n 0, 1) := by decide +kernel
theorem dX5_addPayment_31 : decode cX5_addPayment 31 = .ok (.getfield 18, 3) := by decide +kernel
theorem dX5_addPayment_34 : decode cX5_addPayment 34 = .ok (.iload_n 2, 1) := by decide +kernel
theorem dX5_addPayment_35 : decode cX5_addPayment 35 = .ok (.iload_n 1, 1) := by decide +kernel
theorem dX5_addPayment_36 : decode cX5_addPayment 36 = .ok (.iastore, 1) := by decide +kernel
theorem dX5_addPayment_37 : decode cX5_addPayment 37 = .ok (.return_, 1) := by decide +kernel
theorem zy_X5_addPayment : zYv yX5_addPayment cX5_addPayment 3 none 2 := ⟨zw_926, zw_927, zw_10, zw_928, by decide, by decide, by decide⟩
theorem c_X5_addPayment_0 {C : zC} {I : Nat → Nat → Int32} {J : Nat → Nat → Int64} {Rr : Nat → Nat → Option Nat} {D : zD} (kk : Nat) (hkk : kk = 48 ∨ kk = 53) (a1 : Int32) (a2 : Int32) (v_acts_count : Int32) (e_v_acts_count : I 37 6 = v_acts_count) (v_acts_kinds : (Nat → Int32)) (e_v_acts_kinds : I 38 = v_acts_kinds) (y_v_firstPayments : (Nat → Int32)) (y_v_nextPayments : (Nat → Int32)) (E : zE C RX5 cX5_addPayment 3 none ({ frames := 2, cells := 0, slots := 0, locals := 42 } : Room)) (hQ : C.Q = zQv C ({ frames := 2, cells := 0, slots := 0, locals := 42 } : Room) ((va_up (va_up I (kk + 3) y_v_firstPayments) (kk + 4) y_v_nextPayments), J, Rr, D)) (v_firstPayments : (Nat → Int32)) (v_nextPayments : (Nat → Int32)) (h : pKnown_addPayment a1 a2 v_acts_count v_acts_kinds v_firstPayments v_nextPayments = some (y_v_firstPayments, y_v_nextPayments)) : zB C (0, 0) 0 [(0, .ref (C.X.1 + kk)), (1, .int a1), (2, .int a2)] [] ((va_up (va_up I (kk + 3) v_firstPayments) (kk + 4) v_nextPayments), J, Rr, D) := by
  refine zb_aload_n E dX5_addPayment_0 0 rfl rfl ?_
  refine zb_getX E kk (by omega) (zFk C.X hkk) rfl zin5 0 (by decide) zw_255 ((zup_n (by omega : (kk : Nat) ≠ (kk + 4))).trans (zup_n (by omega : (kk : Nat) ≠ (kk + 3)))) rfl (v := .ref (C.X.1 + 37)) rfl dX5_addPayment_1 ?_
  refine zb_iload_n E dX5_addPayment_4 1 rfl rfl ?_
  obtain ⟨rc1, hc_5, h⟩ := bd1_s h
  refine zb_cVi E [.int a1] 37 zy_X0_isPayment zw_929 (by decide) (zF_37 _ _ _ _) rfl (c_X0_isPayment v_acts_count (zcf (f := ((va_up (va_up I (kk + 3) v_firstPayments) (kk + 4) v_nextPayments) 37)) ((zup_n (by omega : (37 : Nat) ≠ (kk + 4))).trans (zup_n (by omega : (37 : Nat) ≠ (kk + 3)))) (by exact e_v_acts_count)) v_acts_kinds (((zup_n (by omega : (38 : Nat) ≠ (kk + 4))).trans (zup_n (by omega : (38 : Nat) ≠ (kk + 3)))).trans e_v_acts_kinds) hc_5) (by decide) rfl rfl (by first | decide | simp [Value.category]) dX5_addPayment_5 (cs2 := (0, 0)) rfl ?_
  refine zb_if_eq E dX5_addPayment_8 (tgt := 37) rfl (fun hc => ?_) (fun hc => ?_)
  · have h := if_t h hc
    obtain ⟨rfl, rfl⟩ := zinj2 h
    exact zb_vret E hQ rfl ⟨Nat.zero_le _, Nat.zero_le _⟩ dX5_addPayment_37
  · have h := if_f h hc
    refine zb_iload_n E dX5_addPayment_11 2 rfl rfl ?_
    obtain ⟨rc2, hc_12, h⟩ := bd1_s h
    refine zb_cSNi E [.int a2] zy_X11_isTerm znw_35 (c_X11_isTerm hc_12) (by decide) rfl rfl (by first | decide | simp [Value.category]) dX5_addPayment_12 (cs2 := (0, 0)) rfl ?_
    refine zb_if_eq E dX5_addPayment_15 (tgt := 37) rfl (fun hc => ?_) (fun hc => ?_)
    · have h := if_t h hc
      obtain ⟨rfl, rfl⟩ := zinj2 h
      exact zb_vret E hQ rfl ⟨Nat.zero_le _, Nat.zero_le _⟩ dX5_addPayment_37
    · have h := if_f h hc
      refine zb_aload_n E dX5_addPayment_18 0 rfl rfl ?_
      refine zb_getX E kk (by omega) (zFk C.X hkk) rfl zin5 4 (by decide) zw_259 ((zup_n (by omega : (kk : Nat) ≠ (kk + 4))).trans (zup_n (by omega : (kk : Nat) ≠ (kk + 3)))) rfl (v := .ref (C.X.1 + (kk + 4))) rfl dX5_addPayment_19 ?_
      refine zb_iload_n E dX5_addPayment_22 1 rfl rfl ?_
      refine zb_aload_n E dX5_addPayment_23 0 rfl rfl ?_
      refine zb_getX E kk (by omega) (zFk C.X hkk) rfl zin5 3 (by decide) zw_258 ((zup_n (by omega : (kk : Nat) ≠ (kk + 4))).trans (zup_n (by omega : (kk : Nat) ≠ (kk + 3)))) rfl (v := .ref (C.X.1 + (kk + 3))) rfl dX5_addPayment_24 ?_
      refine zb_iload_n E dX5_addPayment_27 2 rfl rfl ?_
      obtain ⟨g3, h⟩ := gd_s h
      refine zb_iald E (kk + 3) (by omega) (zFkA_3 hkk) (f := v_firstPayments) (((zup_n (by omega : ((kk + 3) : Nat) ≠ (kk + 4))).trans zup_s)) (ib_in g3) dX5_addPayment_28 ?_
      obtain ⟨g4, h⟩ := gd_s h
      refine zb_iast E (kk + 4) (by omega) (zFkA_4 hkk) (f := v_nextPayments) (zup_s) (ib_in g4) dX5_addPayment_29 (I2 := (va_up (va_up I (kk + 3) v_firstPayments) (kk + 4) (upd v_nextPayments (ix a1) (v_firstPayments (ix a2))))) zn1 ?_
      refine zb_aload_n E dX5_addPayment_30 0 rfl rfl ?_
      refine zb_getX E kk (by omega) (zFk C.X hkk) rfl zin5 3 (by decide) zw_258 ((zup_n (by omega : (kk : Nat) ≠ (kk + 4))).trans (zup_n (by omega : (kk : Nat) ≠ (kk + 3)))) rfl (v := .ref (C.X.1 + (kk + 3))) rfl dX5_addPayment_31 ?_
      refine zb_iload_n E dX5_addPayment_34 2 rfl rfl ?_
      refine zb_iload_n E dX5_addPayment_35 1 rfl rfl ?_
      refine zb_iast E (kk + 3) (by omega) (zFkA_3 hkk) (f := v_firstPayments) (((zup_n (by omega : ((kk + 3) : Nat) ≠ (kk + 4))).trans zup_s)) (ib_in g3) dX5_addPayment_36 (I2 := (va_up (va_up I (kk + 3) (upd v_firstPayments (ix a2) a1)) (kk + 4) (upd v_nextPayments (ix a1) (v_firstPayments (ix a2))))) (zn2 (by omega : ((kk + 4) : Nat) ≠ (kk + 3))) ?_
      obtain ⟨rfl, rfl⟩ := zinj2 h
      exact zb_vret E hQ rfl ⟨Nat.zero_le _, Nat.zero_le _⟩ dX5_addPayment_37
theorem c_X5_addPayment {l : Launch} {X : zX} {I : Nat → Nat → Int32} {J : Nat → Nat → Int64} {Rr : Nat → Nat → Option Nat} {D : zD} (kk : Nat) (hkk : kk = 48 ∨ kk = 53) {a1 : Int32} {a2 : Int32} (v_acts_count : Int32) (e_v_acts_count : I 37 6 = v_acts_count) (v_acts_kinds : (Nat → Int32)) (e_v_acts_kinds : I 38 = v_acts_kinds) (v_firstPayments : (Nat → Int32)) (e_v_firstPayments : I (kk + 3) = v_firstPayments) (v_nextPayments : (Nat → Int32)) (e_v_nextPayments : I (kk + 4) = v_nextPayments) {y_v_firstPayments : (Nat → Int32)} {y_v_nextPayments : (Nat → Int32)} (h : pKnown_addPayment a1 a2 v_acts_count v_acts_kinds v_firstPayments v_nextPayments = some (y_v_firstPayments, y_v_nextPayments)) : zMv l yX5_addPayment cX5_addPayment 3 none ({ frames := 2, cells := 0, slots := 0, locals := 42 } : Room) X [.ref (X.1 + kk), .int a1, .int a2] (I, J, Rr, D) ((va_up (va_up I (kk + 3) y_v_firstPayments) (kk + 4) y_v_nextPayments), J, Rr, D) := by
  refine zMv.of (by decide) (Nat.le_of_ble_eq_true rfl) (fun C E hl hX hQ => ?_)
  subst hl
  subst hX
  have eI0 : (va_up (va_up I (kk + 3) v_firstPayments) (kk + 4) v_nextPayments) = I := by rw [zup_idE e_v_firstPayments, zup_idE e_v_nextPayments]
  have eJ0 : J = J := rfl
  refine zb_S (S2 := ((va_up (va_up I (kk + 3) v_firstPayments) (kk + 4) v_nextPayments), J, Rr, D)) (zS_eq eI0.symm eJ0.symm) ?_
  exact c_X5_addPayment_0 kk hkk a1 a2 v_acts_count e_v_acts_count v_acts_kinds e_v_acts_kinds y_v_firstPayments y_v_nextPayments E hQ v_firstPayments v_nextPayments h
-- ChequeredCloth$Known.note
theorem dX5_note_0 : decode cX5_note 0 = .ok (.iload_n 2, 1) := by decide +kernel
theorem dX5_note_1 : decode cX5_note 1 = .ok (.invokestatic 57, 3) := by decide +kernel
theorem dX5_note_4 : decode cX5_note 4 = .ok (.ifCond .ne 4, 3) := by decide +kernel
theorem dX5_note_7 : decode cX5_note 7 = .ok (.return_, 1) := by decide +kernel
theorem dX5_note_8 : decode cX5_note 8 = .ok (.aload_n 0, 1) := by decide +kernel
theorem dX5_note_9 : decode cX5_note 9 = .ok (.getfield 24, 3) := by decide +kernel
theorem dX5_note_12 : decode cX5_note 12 = .ok (.getfield 74, 3) := by decide +kernel
theorem dX5_note_15 : decode cX5_note 15 = .ok (.iload_n 1, 1) := by decide +kernel
theorem dX5_note_16 : decode cX5_note 16 = .ok (.iaload, 1) := by decide +kernel
theorem dX5_note_17 : decode cX5_note 17 = .ok (.iconst 1, 1) := by decide +kernel
theorem dX5_note_18 : decode cX5_note 18 = .ok (.if_icmp .ne 22, 3) := by decide +kernel
theorem dX5_note_21 : decode cX5_note 21 = .ok (.aload_n 0, 1) := by decide +kernel
theorem dX5_note_22 : decode cX5_note 22 = .ok (.getfield 9, 3) := by decide +kernel
theorem dX5_note_25 : decode cX5_note 25 = .ok (.iload_n 2, 1) := by decide +kernel
theorem dX5_note_26 : decode cX5_note 26 = .ok (.aload_n 0, 1) := by decide +kernel
theorem dX5_note_27 : decode cX5_note 27 = .ok (.getfield 9, 3) := by decide +kernel
theorem dX5_note_30 : decode cX5_note 30 = .ok (.iload_n 2, 1) := by decide +kernel
theorem dX5_note_31 : decode cX5_note 31 = .ok (.iaload, 1) := by decide +kernel
theorem dX5_note_32 : decode cX5_note 32 = .ok (.iload_n 1, 1) := by decide +kernel
theorem dX5_note_33 : decode cX5_note 33 = .ok (.invokestatic 77, 3) := by decide +kernel
theorem dX5_note_36 : decode cX5_note 36 = .ok (.iastore, 1) := by decide +kernel
theorem dX5_note_37 : decode cX5_note 37 = .ok (.goto 41, 3) := by decide +kernel
theorem dX5_note_40 : decode cX5_note 40 = .ok (.aload_n 0, 1) := by decide +kernel
theorem dX5_note_41 : decode cX5_note 41 = .ok (.getfield 24, 3) := by decide +kernel
theorem dX5_note_44 : decode cX5_note 44 = .ok (.getfield 74, 3) := by decide +kernel
theorem dX5_note_47 : decode cX5_note 47 = .ok (.iload_n 1, 1) := by decide +kernel
theorem dX5_note_48 : decode cX5_note 48 = .ok (.iaload, 1) := by decide +kernel
theorem dX5_note_49 : decode cX5_note 49 = .ok (.iconst 4, 1) := by decide +kernel
theorem dX5_note_50 : decode cX5_note 50 = .ok (.if_icmp .ne 22, 3) := by decide +kernel
theorem dX5_note_53 : decode cX5_note 53 = .ok (.aload_n 0, 1) := by decide +kernel
theorem dX5_note_54 : decode cX5_note 54 = .ok (.getfield 15, 3) := by decide +kernel
theorem dX5_note_57 : decode cX5_note 57 = .ok (.iload_n 2, 1) := by decide +kernel
theorem dX5_note_58 : decode cX5_note 58 = .ok (.aload_n 0, 1) := by decide +kernel
theorem dX5_note_59 : decode cX5_note 59 = .ok (.getfield 15, 3) := by decide +kernel
theorem dX5_note_62 : decode cX5_note 62 = .ok (.iload_n 2, 1) := by decide +kernel
theorem dX5_note_63 : decode cX5_note 63 = .ok (.iaload, 1) := by decide +kernel
theorem dX5_note_64 : decode cX5_note 64 = .ok (.iload_n 1, 1) := by decide +kernel
theorem dX5_note_65 : decode cX5_note 65 = .ok (.invokestatic 77, 3) := by decide +kernel
theorem dX5_note_68 : decode cX5_note 68 = .ok (.iastore, 1) := by decide +kernel
theorem dX5_note_69 : decode cX5_note 69 = .ok (.goto 9, 3) := by decide +kernel
theorem dX5_note_72 : decode cX5_note 72 = .ok (.aload_n 0, 1) := by decide +kernel
theorem dX5_note_73 : decode cX5_note 73 = .ok (.iload_n 1, 1) := by decide +kernel
theorem dX5_note_74 : decode cX5_note 74 = .ok (.iload_n 2, 1) := by decide +kernel
theorem dX5_note_75 : decode cX5_note 75 = .ok (.invokevirtual 80, 3) := by decide +kernel
theorem dX5_note_78 : decode cX5_note 78 = .ok (.return_, 1) := by decide +kernel
theorem zy_X5_note : zYv yX5_note cX5_note 3 none 2 := ⟨zw_919, zws_33, zw_10, zw_920, by decide, by decide, by decide⟩
theorem c_X5_note_0 {C : zC} {I : Nat → Nat → Int32} {J : Nat → Nat → Int64} {Rr : Nat → Nat → Option Nat} {D : zD} (kk : Nat) (hkk : kk = 48 ∨ kk = 53) (a1 : Int32) (a2 : Int32) (v_acts_count : Int32) (e_v_acts_count : I 37 6 = v_acts_count) (v_acts_kinds : (Nat → Int32)) (e_v_acts_kinds : I 38 = v_acts_kinds) (y_v_fires : (Nat → Int32)) (y_v_firstPayments : (Nat → Int32)) (y_v_nextPayments : (Nat → Int32)) (y_v_writs : (Nat → Int32)) (E : zE C RX5 cX5_note 3 none ({ frames := 3, cells := 0, slots := 0, locals := 64 } : Room)) (hQ : C.Q = zQv C ({ frames := 3, cells := 0, slots := 0, locals := 64 } : Room) ((va_up (va_up (va_up (va_up I (kk + 1) y_v_writs) (kk + 2) y_v_fires) (kk + 3) y_v_firstPayments) (kk + 4) y_v_nextPayments), J, Rr, D)) (v_fires : (Nat → Int32)) (v_firstPayments : (Nat → Int32)) (v_nextPayments : (Nat → Int32)) (v_writs : (Nat → Int32)) (h : pKnown_note a1 a2 v_acts_count v_acts_kinds v_fires v_firstPayments v_nextPayments v_writs = some (y_v_fires, y_v_firstPayments, y_v_nextPayments, y_v_writs)) : zB C (0, 0) 0 [(0, .ref (C.X.1 + kk)), (1, .int a1), (2, .int a2)] [] ((va_up (va_up (va_up (va_up I (kk + 1) v_writs) (kk + 2) v_fires) (kk + 3) v_firstPayments) (kk + 4) v_nextPayments), J, Rr, D) := by
  refine zb_iload_n E dX5_note_0 2 rfl rfl ?_
  obtain ⟨rc1, hc_1, h⟩ := bd1_s h
  refine zb_cSNi E [.int a2] zy_X11_isTerm znw_35 (c_X11_isTerm hc_1) (by decide) rfl rfl (by first | decide | simp [Value.category]) dX5_note_1 (cs2 := (0, 0)) rfl ?_
  refine zb_if_ne E dX5_note_4 (tgt := 8) rfl (fun hc => ?_) (fun hc => ?_)
  · have h := if_f h hc
    refine zb_aload_n E dX5_note_8 0 rfl rfl ?_
    refine zb_getX E kk (by omega) (zFk C.X hkk) rfl zin5 0 (by decide) zw_255 ((zup_n (by omega : (kk : Nat) ≠ (kk + 4))).trans ((zup_n (by omega : (kk : Nat) ≠ (kk + 3))).trans ((zup_n (by omega : (kk : Nat) ≠ (kk + 2))).trans (zup_n (by omega : (kk : Nat) ≠ (kk + 1)))))) rfl (v := .ref (C.X.1 + 37)) rfl dX5_note_9 ?_
    refine zb_getNX E 37 (by decide) (zF_37 C.X) rfl zin0 0 (by decide) znw_5 ((zup_n (by omega : (37 : Nat) ≠ (kk + 4))).trans ((zup_n (by omega : (37 : Nat) ≠ (kk + 3))).trans ((zup_n (by omega : (37 : Nat) ≠ (kk + 2))).trans (zup_n (by omega : (37 : Nat) ≠ (kk + 1)))))) rfl (v := .ref (C.X.1 + 38)) rfl dX5_note_12 ?_
    refine zb_iload_n E dX5_note_15 1 rfl rfl ?_
    obtain ⟨g2, h⟩ := gd_s h
    refine zb_iald E 38 (by decide) zF_38 (f := v_acts_kinds) (((zup_n (by omega : (38 : Nat) ≠ (kk + 4))).trans ((zup_n (by omega : (38 : Nat) ≠ (kk + 3))).trans ((zup_n (by omega : (38 : Nat) ≠ (kk + 2))).trans (zup_n (by omega : (38 : Nat) ≠ (kk + 1)))))).trans e_v_acts_kinds) (ib_in g2) dX5_note_16 ?_
    refine zb_iconst E dX5_note_17 (v := 1) rfl ?_
    refine zb_icmp_ne E dX5_note_18 (tgt := 40) rfl (fun hc => ?_) (fun hc => ?_)
    · have h := if_f h hc
      refine zb_aload_n E dX5_note_40 0 rfl rfl ?_
      refine zb_getX E kk (by omega) (zFk C.X hkk) rfl zin5 0 (by decide) zw_255 ((zup_n (by omega : (kk : Nat) ≠ (kk + 4))).trans ((zup_n (by omega : (kk : Nat) ≠ (kk + 3))).trans ((zup_n (by omega : (kk : Nat) ≠ (kk + 2))).trans (zup_n (by omega : (kk : Nat) ≠ (kk + 1)))))) rfl (v := .ref (C.X.1 + 37)) rfl dX5_note_41 ?_
      refine zb_getNX E 37 (by decide) (zF_37 C.X) rfl zin0 0 (by decide) znw_5 ((zup_n (by omega : (37 : Nat) ≠ (kk + 4))).trans ((zup_n (by omega : (37 : Nat) ≠ (kk + 3))).trans ((zup_n (by omega : (37 : Nat) ≠ (kk + 2))).trans (zup_n (by omega : (37 : Nat) ≠ (kk + 1)))))) rfl (v := .ref (C.X.1 + 38)) rfl dX5_note_44 ?_
      refine zb_iload_n E dX5_note_47 1 rfl rfl ?_
      refine zb_iald E 38 (by decide) zF_38 (f := v_acts_kinds) (((zup_n (by omega : (38 : Nat) ≠ (kk + 4))).trans ((zup_n (by omega : (38 : Nat) ≠ (kk + 3))).trans ((zup_n (by omega : (38 : Nat) ≠ (kk + 2))).trans (zup_n (by omega : (38 : Nat) ≠ (kk + 1)))))).trans e_v_acts_kinds) (ib_in g2) dX5_note_48 ?_
      refine zb_iconst E dX5_note_49 (v := 4) rfl ?_
      refine zb_icmp_ne E dX5_note_50 (tgt := 72) rfl (fun hc => ?_) (fun hc => ?_)
      · have h := if_f h hc
        refine zb_aload_n E dX5_note_72 0 rfl rfl ?_
        refine zb_iload_n E dX5_note_73 1 rfl rfl ?_
        refine zb_iload_n E dX5_note_74 2 rfl rfl ?_
        obtain ⟨v_firstPayments_c3, v_nextPayments_c3, hc_75, h⟩ := bd2_s h
        refine zb_cVv E [.int a1, .int a2] kk zy_X5_addPayment zw_925 (by omega) (zFk _ hkk _ _ _) rfl (c_X5_addPayment kk hkk v_acts_count (zcf (f := ((va_up (va_up (va_up (va_up I (kk + 1) v_writs) (kk + 2) v_fires) (kk + 3) v_firstPayments) (kk + 4) v_nextPayments) 37)) ((zup_n (by omega : (37 : Nat) ≠ (kk + 4))).trans ((zup_n (by omega : (37 : Nat) ≠ (kk + 3))).trans ((zup_n (by omega : (37 : Nat) ≠ (kk + 2))).trans (zup_n (by omega : (37 : Nat) ≠ (kk + 1)))))) (by exact e_v_acts_count)) v_acts_kinds (((zup_n (by omega : (38 : Nat) ≠ (kk + 4))).trans ((zup_n (by omega : (38 : Nat) ≠ (kk + 3))).trans ((zup_n (by omega : (38 : Nat) ≠ (kk + 2))).trans (zup_n (by omega : (38 : Nat) ≠ (kk + 1)))))).trans e_v_acts_kinds) v_firstPayments ((zup_n (by omega : ((kk + 3) : Nat) ≠ (kk + 4))).trans zup_s) v_nextPayments zup_s hc_75) (by decide) rfl rfl (by first | decide | simp [Value.category]) dX5_note_75 (cs2 := (0, 0)) rfl ?_
        refine zb_S (S2 := ((va_up (va_up (va_up (va_up I (kk + 1) v_writs) (kk + 2) v_fires) (kk + 3) v_firstPayments_c3) (kk + 4) v_nextPayments_c3), J, Rr, D)) (zS_eq3 ((zcgF (zn2 (by omega : ((kk + 4) : Nat) ≠ (kk + 3)))).trans zn1) rfl rfl) ?_
        obtain ⟨rfl, rfl, rfl, rfl⟩ := zinj4 h
        exact zb_vret E hQ rfl ⟨Nat.zero_le _, Nat.zero_le _⟩ dX5_note_78
      · have h := if_t h hc
        refine zb_aload_n E dX5_note_53 0 rfl rfl ?_
        refine zb_getX E kk (by omega) (zFk C.X hkk) rfl zin5 2 (by decide) zw_257 ((zup_n (by omega : (kk : Nat) ≠ (kk + 4))).trans ((zup_n (by omega : (kk : Nat) ≠ (kk + 3))).trans ((zup_n (by omega : (kk : Nat) ≠ (kk + 2))).trans (zup_n (by omega : (kk : Nat) ≠ (kk + 1)))))) rfl (v := .ref (C.X.1 + (kk + 2))) rfl dX5_note_54 ?_
        refine zb_iload_n E dX5_note_57 2 rfl rfl ?_
        refine zb_aload_n E dX5_note_58 0 rfl rfl ?_
        refine zb_getX E kk (by omega) (zFk C.X hkk) rfl zin5 2 (by decide) zw_257 ((zup_n (by omega : (kk : Nat) ≠ (kk + 4))).trans ((zup_n (by omega : (kk : Nat) ≠ (kk + 3))).trans ((zup_n (by omega : (kk : Nat) ≠ (kk + 2))).trans (zup_n (by omega : (kk : Nat) ≠ (kk + 1)))))) rfl (v := .ref (C.X.1 + (kk + 2))) rfl dX5_note_59 ?_
        refine zb_iload_n E dX5_note_62 2 rfl rfl ?_
        obtain ⟨g4, h⟩ := gd_s h
        refine zb_iald E (kk + 2) (by omega) (zFkA_2 hkk) (f := v_fires) (((zup_n (by omega : ((kk + 2) : Nat) ≠ (kk + 4))).trans ((zup_n (by omega : ((kk + 2) : Nat) ≠ (kk + 3))).trans zup_s))) (ib_in g4) dX5_note_63 ?_
        refine zb_iload_n E dX5_note_64 1 rfl rfl ?_
        refine zb_mmax E zYm_mmax zw_922 (by decide) (by first | decide | simp [Value.category]) dX5_note_65 ?_
        refine zb_iast E (kk + 2) (by omega) (zFkA_2 hkk) (f := v_fires) (((zup_n (by omega : ((kk + 2) : Nat) ≠ (kk + 4))).trans ((zup_n (by omega : ((kk + 2) : Nat) ≠ (kk + 3))).trans zup_s))) (ib_in g4) dX5_note_68 (I2 := (va_up (va_up (va_up (va_up I (kk + 1) v_writs) (kk + 2) (upd v_fires (ix a2) (m_max (v_fires (ix a2)) a1))) (kk + 3) v_firstPayments) (kk + 4) v_nextPayments)) (zn3 (by omega : ((kk + 4) : Nat) ≠ (kk + 2)) (by omega : ((kk + 3) : Nat) ≠ (kk + 2))) ?_
        refine zb_goto E dX5_note_69 (tgt := 78) rfl ?_
        obtain ⟨rfl, rfl, rfl, rfl⟩ := zinj4 h
        exact zb_vret E hQ rfl ⟨Nat.zero_le _, Nat.zero_le _⟩ dX5_note_78
    · have h := if_t h hc
      refine zb_aload_n E dX5_note_21 0 rfl rfl ?_
      refine zb_getX E kk (by omega) (zFk C.X hkk) rfl zin5 1 (by decide) zw_256 ((zup_n (by omega : (kk : Nat) ≠ (kk + 4))).trans ((zup_n (by omega : (kk : Nat) ≠ (kk + 3))).trans ((zup_n (by omega : (kk : Nat) ≠ (kk + 2))).trans (zup_n (by omega : (kk : Nat) ≠ (kk + 1)))))) rfl (v := .ref (C.X.1 + (kk + 1))) rfl dX5_note_22 ?_
      refine zb_iload_n E dX5_note_25 2 rfl rfl ?_
      refine zb_aload_n E dX5_note_26 0 rfl rfl ?_
      refine zb_getX E kk (by omega) (zFk C.X hkk) rfl zin5 1 (by decide) zw_256 ((zup_n (by omega : (kk : Nat) ≠ (kk + 4))).trans ((zup_n (by omega : (kk : Nat) ≠ (kk + 3))).trans ((zup_n (by omega : (kk : Nat) ≠ (kk + 2))).trans (zup_n (by omega : (kk : Nat) ≠ (kk + 1)))))) rfl (v := .ref (C.X.1 + (kk + 1))) rfl dX5_note_27 ?_
      refine zb_iload_n E dX5_note_30 2 rfl rfl ?_
      obtain ⟨g5, h⟩ := gd_s h
      refine zb_iald E (kk + 1) (by omega) (zFkA_1 hkk) (f := v_writs) (((zup_n (by omega : ((kk + 1) : Nat) ≠ (kk + 4))).trans ((zup_n (by omega : ((kk + 1) : Nat) ≠ (kk + 3))).trans ((zup_n (by omega : ((kk + 1) : Nat) ≠ (kk + 2))).trans zup_s)))) (ib_in g5) dX5_note_31 ?_
      refine zb_iload_n E dX5_note_32 1 rfl rfl ?_
      refine zb_mmax E zYm_mmax zw_922 (by decide) (by first | decide | simp [Value.category]) dX5_note_33 ?_
      refine zb_iast E (kk + 1) (by omega) (zFkA_1 hkk) (f := v_writs) (((zup_n (by omega : ((kk + 1) : Nat) ≠ (kk + 4))).trans ((zup_n (by omega : ((kk + 1) : Nat) ≠ (kk + 3))).trans ((zup_n (by omega : ((kk + 1) : Nat) ≠ (kk + 2))).trans zup_s)))) (ib_in g5) dX5_note_36 (I2 := (va_up (va_up (va_up (va_up I (kk + 1) (upd v_writs (ix a2) (m_max (v_writs (ix a2)) a1))) (kk + 2) v_fires) (kk + 3) v_firstPayments) (kk + 4) v_nextPayments)) (zn4 (by omega : ((kk + 4) : Nat) ≠ (kk + 1)) (by omega : ((kk + 3) : Nat) ≠ (kk + 1)) (by omega : ((kk + 2) : Nat) ≠ (kk + 1))) ?_
      refine zb_goto E dX5_note_37 (tgt := 78) rfl ?_
      obtain ⟨rfl, rfl, rfl, rfl⟩ := zinj4 h
      exact zb_vret E hQ rfl ⟨Nat.zero_le _, Nat.zero_le _⟩ dX5_note_78
  · have h := if_t h hc
    obtain ⟨rfl, rfl, rfl, rfl⟩ := zinj4 h
    exact zb_vret E hQ rfl ⟨Nat.zero_le _, Nat.zero_le _⟩ dX5_note_7
theorem c_X5_note {l : Launch} {X : zX} {I : Nat → Nat → Int32} {J : Nat → Nat → Int64} {Rr : Nat → Nat → Option Nat} {D : zD} (kk : Nat) (hkk : kk = 48 ∨ kk = 53) {a1 : Int32} {a2 : Int32} (v_acts_count : Int32) (e_v_acts_count : I 37 6 = v_acts_count) (v_acts_kinds : (Nat → Int32)) (e_v_acts_kinds : I 38 = v_acts_kinds) (v_fires : (Nat → Int32)) (e_v_fires : I (kk + 2) = v_fires) (v_firstPayments : (Nat → Int32)) (e_v_firstPayments : I (kk + 3) = v_firstPayments) (v_nextPayments : (Nat → Int32)) (e_v_nextPayments : I (kk + 4) = v_nextPayments) (v_writs : (Nat → Int32)) (e_v_writs : I (kk + 1) = v_writs) {y_v_fires : (Nat → Int32)} {y_v_firstPayments : (Nat → Int32)} {y_v_nextPayments : (Nat → Int32)} {y_v_writs : (Nat → Int32)} (h : pKnown_note a1 a2 v_acts_count v_acts_kinds v_fires v_firstPayments v_nextPayments v_writs = some (y_v_fires, y_v_firstPayments, y_v_nextPayments, y_v_writs)) : zMv l yX5_note cX5_note 3 none ({ frames := 3, cells := 0, slots := 0, locals := 64 } : Room) X [.ref (X.1 + kk), .int a1, .int a2] (I, J, Rr, D) ((va_up (va_up (va_up (va_up I (kk + 1) y_v_writs) (kk + 2) y_v_fires) (kk + 3) y_v_firstPayments) (kk + 4) y_v_nextPayments), J, Rr, D) := by
  refine zMv.of (by decide) (Nat.le_of_ble_eq_true rfl) (fun C E hl hX hQ => ?_)
  subst hl
  subst hX
  have eI0 : (va_up (va_up (va_up (va_up I (kk + 1) v_writs) (kk + 2) v_fires) (kk + 3) v_firstPayments) (kk + 4) v_nextPayments) = I := by rw [zup_idE e_v_writs, zup_idE e_v_fires, zup_idE e_v_firstPayments, zup_idE e_v_nextPayments]
  have eJ0 : J = J := rfl
  refine zb_S (S2 := ((va_up (va_up (va_up (va_up I (kk + 1) v_writs) (kk + 2) v_fires) (kk + 3) v_firstPayments) (kk + 4) v_nextPayments), J, Rr, D)) (zS_eq eI0.symm eJ0.symm) ?_
  exact c_X5_note_0 kk hkk a1 a2 v_acts_count e_v_acts_count v_acts_kinds e_v_acts_kinds y_v_fires y_v_firstPayments y_v_nextPayments y_v_writs E hQ v_fires v_firstPayments v_nextPayments v_writs h
-- ChequeredCloth$Known.setAt
theorem dX5_setAt_0 : decode cX5_setAt 0 = .ok (.aload_n 0, 1) := by decide +kernel
theorem dX5_setAt_1 : decode cX5_setAt 1 = .ok (.getfield 9, 3) := by decide +kernel
theorem dX5_setAt_4 : decode cX5_setAt 4 = .ok (.iconst 0, 1) := by decide +kernel
theorem dX5_setAt_5 : decode cX5_setAt 5 = .ok (.invokestatic 28, 3) := by decide +kernel
theorem dX5_setAt_8 : decode cX5_setAt 8 = .ok (.aload_n 0, 1) := by decide +kernel
theorem dX5_setAt_9 : decode cX5_setAt 9 = .ok (.getfield 15, 3) := by decide +kernel
theorem dX5_setAt_12 : decode cX5_setAt 12 = .ok (.iconst 0, 1) := by decide +kernel
theorem dX5_setAt_13 : decode cX5_setAt 13 = .ok (.invokestatic 28, 3) := by decide +kernel
theorem dX5_setAt_16 : decode cX5_setAt 16 = .ok (.aload_n 0, 1) := by decide +kernel
theorem dX5_setAt_17 : decode cX5_setAt 17 = .ok (.getfield 18, 3) := by decide +kernel
theorem dX5_setAt_20 : decode cX5_setAt 20 = .ok (.iconst 0, 1) := by decide +kernel
theorem dX5_setAt_21 : decode cX5_setAt 21 = .ok (.invokestatic 28, 3) := by decide +kernel
theorem dX5_setAt_24 : decode cX5_setAt 24 = .ok (.iload_n 1, 1) := by decide +kernel
theorem dX5_setAt_25 : decode cX5_setAt 25 = .ok (.aload_n 0, 1) := by decide +kernel
theorem dX5_setAt_26 : decode cX5_setAt 26 = .ok (.getfield 24, 3) := by decide +kernel
theorem dX5_setAt_29 : decode cX5_setAt 29 = .ok (.invokevirtual 34, 3) := by decide +kernel
theorem dX5_setAt_32 : decode cX5_setAt 32 = .ok (.invokestatic 40, 3) := by decide +kernel
theorem dX5_setAt_35 : decode cX5_setAt 35 = .ok (.istore_n 3, 1) := by decide +kernel
theorem dX5_setAt_36 : decode cX5_setAt 36 = .ok (.iload_n 3, 1) := by decide +kernel
theorem dX5_setAt_37 : decode cX5_setAt 37 = .ok (.iconst 1, 1) := by decide +kernel
theorem dX5_setAt_38 : decode cX5_setAt 38 = .ok (.if_icmp .lt 40, 3) := by decide +kernel
theorem dX5_setAt_41 : decode cX5_setAt 41 = .ok (.iload_n 3, 1) := by decide +kernel
theorem dX5_setAt_42 : decode cX5_setAt 42 = .ok (.iload_n 2, 1) := by decide +kernel
theorem dX5_setAt_43 : decode cX5_setAt 43 = .ok (.if_icmp .eq 29, 3) := by decide +kernel
theorem dX5_setAt_46 : decode cX5_setAt 46 = .ok (.aload_n 0, 1) := by decide +kernel
theorem dX5_setAt_47 : decode cX5_setAt 47 = .ok (.getfield 24, 3) := by decide +kernel
theorem dX5_setAt_50 : decode cX5_setAt 50 = .ok (.iload_n 3, 1) := by decide +kernel
theorem dX5_setAt_51 : decode cX5_setAt 51 = .ok (.iload_n 1, 1) := by decide +kernel
theorem dX5_setAt_52 : decode cX5_setAt 52 = .ok (.invokevirtual 46, 3) := by decide +kernel
theorem dX5_setAt_55 : decode cX5_setAt 55 = .ok (.ifCond .eq 17, 3) := by decide +kernel
theorem dX5_setAt_58 : decode cX5_setAt 58 = .ok (.aload_n 0, 1) := by decide +kernel
theorem dX5_setAt_59 : decode cX5_setAt 59 = .ok (.iload_n 3, 1) := by decide +kernel
theorem dX5_setAt_60 : decode cX5_setAt 60 = .ok (.aload_n 0, 1) := by decide +kernel
theorem dX5_setAt_61 : decode cX5_setAt 61 = .ok (.getfield 24, 3) := by decide +kernel
theorem dX5_setAt_64 : decode cX5_setAt 64 = .ok (.getfield 50, 3) := by decide +kernel
theorem dX5_setAt_67 : decode cX5_setAt 67 = .ok (.iload_n 3, 1) := by decide +kernel
theorem dX5_setAt_68 : decode cX5_setAt 68 = .ok (.iaload, 1) := by decide +kernel
theorem dX5_setAt_69 : decode cX5_setAt 69 = .ok (.invokevirtual 53, 3) := by decide +kernel
theorem dX5_setAt_72 : decode cX5_setAt 72 = .ok (.iinc 3 (-1), 3) := by decide +kernel
theorem dX5_setAt_75 : decode cX5_setAt 75 = .ok (.goto (-39), 3) := by decide +kernel
theorem dX5_setAt_78 : decode cX5_setAt 78 = .ok (.iconst 1, 1) := by decide +kernel
theorem dX5_setAt_79 : decode cX5_setAt 79 = .ok (.istore_n 3, 1) := by decide +kernel
theorem dX5_setAt_80 : decode cX5_setAt 80 = .ok (.iload_n 3, 1) := by decide +kernel
theorem dX5_setAt_81 : decode cX5_setAt 81 = .ok (.bipush 40, 2) := by decide +kernel
theorem dX5_setAt_83 : decode cX5_setAt 83 = .ok (.if_icmp .ge 41, 3) := by decide +kernel
theorem dX5_setAt_86 : decode cX5_setAt 86 = .ok (.aload_n 0, 1) := by decide +kernel
theorem dX5_setAt_87 : decode cX5_setAt 87 = .ok (.getfield 9, 3) := by decide +kernel
theorem dX5_setAt_90 : decode cX5_setAt 90 = .ok (.iload_n 3, 1) := by decide +kernel
theorem dX5_setAt_91 : decode cX5_setAt 91 = .ok (.aload_n 0, 1) := by decide +kernel
theorem dX5_setAt_92 : decode cX5_setAt 92 = .ok (.getfield 9, 3) := by decide +kernel
theorem dX5_setAt_95 : decode cX5_setAt 95 = .ok (.iload_n 3, 1) := by decide +kernel
theorem dX5_setAt_96 : decode cX5_setAt 96 = .ok (.iaload, 1) := by decide +kernel
theorem dX5_setAt_97 : decode cX5_setAt 97 = .ok (.ifCond .ne 14, 3) := by decide +kernel
theorem dX5_setAt_100 : decode cX5_setAt 100 = .ok (.aload_n 0, 1) := by decide +kernel
theorem dX5_setAt_101 : decode cX5_setAt 101 = .ok (.getfield 9, 3) := by decide +kernel
theorem dX5_setAt_104 : decode cX5_setAt 104 = .ok (.iload_n 3, 1) := by decide +kernel
theorem dX5_setAt_105 : decode cX5_setAt 105 = .ok (.iconst 1, 1) := by decide +kernel
theorem dX5_setAt_106 : decode cX5_setAt 106 = .ok (.isub, 1) := by decide +kernel
theorem dX5_setAt_107 : decode cX5_setAt 107 = .ok (.iaload, 1) := by decide +kernel
theorem dX5_setAt_108 : decode cX5_setAt 108 = .ok (.goto 9, 3) := by decide +kernel
theorem dX5_setAt_111 : decode cX5_setAt 111 = .ok (.aload_n 0, 1) := by decide +kernel
theorem dX5_setAt_112 : decode cX5_setAt 112 = .ok (.getfield 9, 3) := by decide +kernel
theorem dX5_setAt_115 : decode cX5_setAt 115 = .ok (.iload_n 3, 1) := by decide +kernel
theorem dX5_setAt_116 : decode cX5_setAt 116 = .ok (.iaload, 1) := by decide +kernel
theorem dX5_setAt_117 : decode cX5_setAt 117 = .ok (.iastore, 1) := by decide +kernel
theorem dX5_setAt_118 : decode cX5_setAt 118 = .ok (.iinc 3 1, 3) := by decide +kernel
theorem dX5_setAt_121 : decode cX5_setAt 121 = .ok (.goto (-41), 3) := by decide +kernel
theorem dX5_setAt_124 : decode cX5_setAt 124 = .ok (.return_, 1) := by decide +kernel
theorem zy_X5_setAt : zYv yX5_setAt cX5_setAt 4 none 2 := ⟨zw_903, zw_904, zw_10, zw_905, by decide, by decide, by decide⟩
theorem c_X5_setAt_b36 {C : zC} {I : Nat → Nat → Int32} {J : Nat → Nat → Int64} {Rr : Nat → Nat → Option Nat} {D : zD} (kk : Nat) (hkk : kk = 48 ∨ kk = 53) (N : Nat) (a1 : Int32) (a2 : Int32) (v_acts_count : Int32) (e_v_acts_count : I 37 6 = v_acts_count) (v_acts_kinds : (Nat → Int32)) (e_v_acts_kinds : I 38 = v_acts_kinds) (v_acts_terms : (Nat → Int32)) (e_v_acts_terms : I 40 = v_acts_terms) (v_acts_voidedBy : (Nat → Int32)) (e_v_acts_voidedBy : I 42 = v_acts_voidedBy) (y_v_fires : (Nat → Int32)) (y_v_firstPayments : (Nat → Int32)) (y_v_nextPayments : (Nat → Int32)) (y_v_writs : (Nat → Int32)) (E : zE C RX5 cX5_setAt 4 none ({ frames := 4, cells := 0, slots := 0, locals := 86 } : Room)) (hQ : C.Q = zQv C ({ frames := 4, cells := 0, slots := 0, locals := 86 } : Room) ((va_up (va_up (va_up (va_up I (kk + 1) y_v_writs) (kk + 2) y_v_fires) (kk + 3) y_v_firstPayments) (kk + 4) y_v_nextPayments), J, Rr, D)) (k78 : (Nat → Int32) → (Nat → Int32) → (Nat → Int32) → (Nat → Int32) → Option R_pKnown_setAt) (hk78 : ∀ (v_fires : (Nat → Int32)) (v_firstPayments : (Nat → Int32)) (v_nextPayments : (Nat → Int32)) (v_writs : (Nat → Int32)), k78 v_fires v_firstPayments v_nextPayments v_writs = some (y_v_fires, y_v_firstPayments, y_v_nextPayments, y_v_writs) → zB C (0, 0) 78 [(0, .ref (C.X.1 + kk))] [] ((va_up (va_up (va_up (va_up I (kk + 1) v_writs) (kk + 2) v_fires) (kk + 3) v_firstPayments) (kk + 4) v_nextPayments), J, Rr, D)) : ∀ (n9 : Nat) (x3 : Int32) (v_fires : (Nat → Int32)) (v_firstPayments : (Nat → Int32)) (v_nextPayments : (Nat → Int32)) (v_writs : (Nat → Int32)), pKnown_setAt_b36 N a1 a2 v_acts_count v_acts_kinds v_acts_terms v_acts_voidedBy k78 n9 x3 v_fires v_firstPayments v_nextPayments v_writs = some (y_v_fires, y_v_firstPayments, y_v_nextPayments, y_v_writs) → zB C (0, 0) 36 [(0, .ref (C.X.1 + kk)), (1, .int a1), (2, .int a2), (3, .int x3)] [] ((va_up (va_up (va_up (va_up I (kk + 1) v_writs) (kk + 2) v_fires) (kk + 3) v_firstPayments) (kk + 4) v_nextPayments), J, Rr, D) := by
  refine zlp5_ind (P := fun (x3 : Int32) (v_fires : (Nat → Int32)) (v_firstPayments : (Nat → Int32)) (v_nextPayments : (Nat → Int32)) (v_writs : (Nat → Int32)) => zB C (0, 0) 36 [(0, .ref (C.X.1 + kk)), (1, .int a1), (2, .int a2), (3, .int x3)] [] ((va_up (va_up (va_up (va_up I (kk + 1) v_writs) (kk + 2) v_fires) (kk + 3) v_firstPayments) (kk + 4) v_nextPayments), J, Rr, D)) (fun self ih => ?_)
  intro x3 v_fires v_firstPayments v_nextPayments v_writs h
  refine zb_iload_n E dX5_setAt_36 3 rfl rfl ?_
  refine zb_iconst E dX5_setAt_37 (v := 1) rfl ?_
  refine zb_icmp_lt E dX5_setAt_38 (tgt := 78) rfl (fun hc => ?_) (fun hc => ?_)
  · have h := if_t h hc
    refine zb_sub [0] rfl ?_
    exact hk78 v_fires v_firstPayments v_nextPayments v_writs h
  · have h := if_f h hc
    refine zb_iload_n E dX5_setAt_41 3 rfl rfl ?_
    refine zb_iload_n E dX5_setAt_42 2 rfl rfl ?_
    refine zb_icmp_eq E dX5_setAt_43 (tgt := 72) rfl (fun hc => ?_) (fun hc => ?_)
    · have h := if_t h hc
      refine zb_iinc E dX5_setAt_72 3 rfl (v := (x3 + (-1))) rfl (by decide) (lv2 := [(3, .int (x3 + (-1))), (0, .ref (C.X.1 + kk)), (1, .int a1), (2, .int a2)]) rfl ?_
      refine zb_goto E dX5_setAt_75 (tgt := 36) rfl ?_
      refine zb_sub [1, 2, 3, 0] rfl ?_
      exact ih (x3 + (-1)) v_fires v_firstPayments v_nextPayments v_writs h
    · have h := if_f h hc
      refine zb_aload_n E dX5_setAt_46 0 rfl rfl ?_
      refine zb_getX E kk (by omega) (zFk C.X hkk) rfl zin5 0 (by decide) zw_255 ((zup_n (by omega : (kk : Nat) ≠ (kk + 4))).trans ((zup_n (by omega : (kk : Nat) ≠ (kk + 3))).trans ((zup_n (by omega : (kk : Nat) ≠ (kk + 2))).trans (zup_n (by omega : (kk : Nat) ≠ (kk + 1)))))) rfl (v := .ref (C.X.1 + 37)) rfl dX5_setAt_47 ?_
      refine zb_iload_n E dX5_setAt_50 3 rfl rfl ?_
      refine zb_iload_n E dX5_setAt_51 1 rfl rfl ?_
      obtain ⟨rc2, hc_52, h⟩ := bd1_s h
      refine zb_cVi E [.int x3, .int a1] 37 zy_X0_isKnown zw_909 (by decide) (zF_37 _ _ _ _) rfl (c_X0_isKnown v_acts_count (zcf (f := ((va_up (va_up (va_up (va_up I (kk + 1) v_writs) (kk + 2) v_fires) (kk + 3) v_firstPayments) (kk + 4) v_nextPayments) 37)) ((zup_n (by omega : (37 : Nat) ≠ (kk + 4))).trans ((zup_n (by omega : (37 : Nat) ≠ (kk + 3))).trans ((zup_n (by omega : (37 : Nat) ≠ (kk + 2))).trans (zup_n (by omega : (37 : Nat) ≠ (kk + 1)))))) (by exact e_v_acts_count)) v_acts_kinds (((zup_n (by omega : (38 : Nat) ≠ (kk + 4))).trans ((zup_n (by omega : (38 : Nat) ≠ (kk + 3))).trans ((zup_n (by omega : (38 : Nat) ≠ (kk + 2))).trans (zup_n (by omega : (38 : Nat) ≠ (kk + 1)))))).trans e_v_acts_kinds) v_acts_voidedBy (((zup_n (by omega : (42 : Nat) ≠ (kk + 4))).trans ((zup_n (by omega : (42 : Nat) ≠ (kk + 3))).trans ((zup_n (by omega : (42 : Nat) ≠ (kk + 2))).trans (zup_n (by omega : (42 : Nat) ≠ (kk + 1)))))).trans e_v_acts_voidedBy) hc_52) (by decide) rfl rfl (by first | decide | simp [Value.category]) dX5_setAt_52 (cs2 := (0, 0)) rfl ?_
      refine zb_if_eq E dX5_setAt_55 (tgt := 72) rfl (fun hc => ?_) (fun hc => ?_)
      · have h := if_t h hc
        refine zb_iinc E dX5_setAt_72 3 rfl (v := (x3 + (-1))) rfl (by decide) (lv2 := [(3, .int (x3 + (-1))), (0, .ref (C.X.1 + kk)), (1, .int a1), (2, .int a2)]) rfl ?_
        refine zb_goto E dX5_setAt_75 (tgt := 36) rfl ?_
        refine zb_sub [1, 2, 3, 0] rfl ?_
        exact ih (x3 + (-1)) v_fires v_firstPayments v_nextPayments v_writs h
      · have h := if_f h hc
        refine zb_aload_n E dX5_setAt_58 0 rfl rfl ?_
        refine zb_iload_n E dX5_setAt_59 3 rfl rfl ?_
        refine zb_aload_n E dX5_setAt_60 0 rfl rfl ?_
        refine zb_getX E kk (by omega) (zFk C.X hkk) rfl zin5 0 (by decide) zw_255 ((zup_n (by omega : (kk : Nat) ≠ (kk + 4))).trans ((zup_n (by omega : (kk : Nat) ≠ (kk + 3))).trans ((zup_n (by omega : (kk : Nat) ≠ (kk + 2))).trans (zup_n (by omega : (kk : Nat) ≠ (kk + 1)))))) rfl (v := .ref (C.X.1 + 37)) rfl dX5_setAt_61 ?_
        refine zb_getNX E 37 (by decide) (zF_37 C.X) rfl zin0 2 (by decide) znw_9 ((zup_n (by omega : (37 : Nat) ≠ (kk + 4))).trans ((zup_n (by omega : (37 : Nat) ≠ (kk + 3))).trans ((zup_n (by omega : (37 : Nat) ≠ (kk + 2))).trans (zup_n (by omega : (37 : Nat) ≠ (kk + 1)))))) rfl (v := .ref (C.X.1 + 40)) rfl dX5_setAt_64 ?_
        refine zb_iload_n E dX5_setAt_67 3 rfl rfl ?_
        obtain ⟨g3, h⟩ := gd_s h
        refine zb_iald E 40 (by decide) zF_40 (f := v_acts_terms) (((zup_n (by omega : (40 : Nat) ≠ (kk + 4))).trans ((zup_n (by omega : (40 : Nat) ≠ (kk + 3))).trans ((zup_n (by omega : (40 : Nat) ≠ (kk + 2))).trans (zup_n (by omega : (40 : Nat) ≠ (kk + 1)))))).trans e_v_acts_terms) (ib_in g3) dX5_setAt_68 ?_
        obtain ⟨v_fires_c4, v_firstPayments_c4, v_nextPayments_c4, v_writs_c4, hc_69, h⟩ := bd4_s h
        refine zb_cVv E [.int x3, .int (v_acts_terms (ix x3))] kk zy_X5_note zw_917 (by omega) (zFk _ hkk _ _ _) rfl (c_X5_note kk hkk v_acts_count (zcf (f := ((va_up (va_up (va_up (va_up I (kk + 1) v_writs) (kk + 2) v_fires) (kk + 3) v_firstPayments) (kk + 4) v_nextPayments) 37)) ((zup_n (by omega : (37 : Nat) ≠ (kk + 4))).trans ((zup_n (by omega : (37 : Nat) ≠ (kk + 3))).trans ((zup_n (by omega : (37 : Nat) ≠ (kk + 2))).trans (zup_n (by omega : (37 : Nat) ≠ (kk + 1)))))) (by exact e_v_acts_count)) v_acts_kinds (((zup_n (by omega : (38 : Nat) ≠ (kk + 4))).trans ((zup_n (by omega : (38 : Nat) ≠ (kk + 3))).trans ((zup_n (by omega : (38 : Nat) ≠ (kk + 2))).trans (zup_n (by omega : (38 : Nat) ≠ (kk + 1)))))).trans e_v_acts_kinds) v_fires ((zup_n (by omega : ((kk + 2) : Nat) ≠ (kk + 4))).trans ((zup_n (by omega : ((kk + 2) : Nat) ≠ (kk + 3))).trans zup_s)) v_firstPayments ((zup_n (by omega : ((kk + 3) : Nat) ≠ (kk + 4))).trans zup_s) v_nextPayments zup_s v_writs ((zup_n (by omega : ((kk + 1) : Nat) ≠ (kk + 4))).trans ((zup_n (by omega : ((kk + 1) : Nat) ≠ (kk + 3))).trans ((zup_n (by omega : ((kk + 1) : Nat) ≠ (kk + 2))).trans zup_s))) hc_69) (by decide) rfl rfl (by first | decide | simp [Value.category]) dX5_setAt_69 (cs2 := (0, 0)) rfl ?_
        refine zb_S (S2 := ((va_up (va_up (va_up (va_up I (kk + 1) v_writs_c4) (kk + 2) v_fires_c4) (kk + 3) v_firstPayments_c4) (kk + 4) v_nextPayments_c4), J, Rr, D)) (zS_eq3 ((zcgF ((zcgF ((zcgF (zn4 (by omega : ((kk + 4) : Nat) ≠ (kk + 1)) (by omega : ((kk + 3) : Nat) ≠ (kk + 1)) (by omega : ((kk + 2) : Nat) ≠ (kk + 1)))).trans (zn3 (by omega : ((kk + 4) : Nat) ≠ (kk + 2)) (by omega : ((kk + 3) : Nat) ≠ (kk + 2))))).trans (zn2 (by omega : ((kk + 4) : Nat) ≠ (kk + 3))))).trans zn1) rfl rfl) ?_
        refine zb_iinc E dX5_setAt_72 3 rfl (v := (x3 + (-1))) rfl (by decide) (lv2 := [(3, .int (x3 + (-1))), (0, .ref (C.X.1 + kk)), (1, .int a1), (2, .int a2)]) rfl ?_
        refine zb_goto E dX5_setAt_75 (tgt := 36) rfl ?_
        refine zb_sub [1, 2, 3, 0] rfl ?_
        exact ih (x3 + (-1)) v_fires_c4 v_firstPayments_c4 v_nextPayments_c4 v_writs_c4 h
theorem c_X5_setAt_b117 {C : zC} {I : Nat → Nat → Int32} {J : Nat → Nat → Int64} {Rr : Nat → Nat → Option Nat} {D : zD} (kk : Nat) (hkk : kk = 48 ∨ kk = 53) (N : Nat) (a1 : Int32) (a2 : Int32) (v_acts_count : Int32) (e_v_acts_count : I 37 6 = v_acts_count) (v_acts_kinds : (Nat → Int32)) (e_v_acts_kinds : I 38 = v_acts_kinds) (v_acts_terms : (Nat → Int32)) (e_v_acts_terms : I 40 = v_acts_terms) (v_acts_voidedBy : (Nat → Int32)) (e_v_acts_voidedBy : I 42 = v_acts_voidedBy) (y_v_fires : (Nat → Int32)) (y_v_firstPayments : (Nat → Int32)) (y_v_nextPayments : (Nat → Int32)) (y_v_writs : (Nat → Int32)) (E : zE C RX5 cX5_setAt 4 none ({ frames := 4, cells := 0, slots := 0, locals := 86 } : Room)) (hQ : C.Q = zQv C ({ frames := 4, cells := 0, slots := 0, locals := 86 } : Room) ((va_up (va_up (va_up (va_up I (kk + 1) y_v_writs) (kk + 2) y_v_fires) (kk + 3) y_v_firstPayments) (kk + 4) y_v_nextPayments), J, Rr, D)) (x3 : Int32) (s1 : Int32) (s2 : Int32) (v_fires : (Nat → Int32)) (v_firstPayments : (Nat → Int32)) (v_nextPayments : (Nat → Int32)) (v_writs : (Nat → Int32)) (self : Int32 → (Nat → Int32) → Option R_pKnown_setAt) (ih : ∀ (x3 : Int32) (v_writs : (Nat → Int32)), self x3 v_writs = some (y_v_fires, y_v_firstPayments, y_v_nextPayments, y_v_writs) → zB C (0, 0) 80 [(0, .ref (C.X.1 + kk)), (3, .int x3)] [] ((va_up (va_up (va_up (va_up I (kk + 1) v_writs) (kk + 2) v_fires) (kk + 3) v_firstPayments) (kk + 4) v_nextPayments), J, Rr, D)) (h : pKnown_setAt_b117 N a1 a2 v_acts_count v_acts_kinds v_acts_terms v_acts_voidedBy self x3 s1 s2 v_fires v_firstPayments v_nextPayments v_writs = some (y_v_fires, y_v_firstPayments, y_v_nextPayments, y_v_writs)) : zB C (0, 0) 117 [(0, .ref (C.X.1 + kk)), (3, .int x3)] [.int s2, .int s1, .ref (C.X.1 + (kk + 1))] ((va_up (va_up (va_up (va_up I (kk + 1) v_writs) (kk + 2) v_fires) (kk + 3) v_firstPayments) (kk + 4) v_nextPayments), J, Rr, D) := by
  obtain ⟨g7, h⟩ := gd_s h
  refine zb_iast E (kk + 1) (by omega) (zFkA_1 hkk) (f := v_writs) (((zup_n (by omega : ((kk + 1) : Nat) ≠ (kk + 4))).trans ((zup_n (by omega : ((kk + 1) : Nat) ≠ (kk + 3))).trans ((zup_n (by omega : ((kk + 1) : Nat) ≠ (kk + 2))).trans zup_s)))) (ib_in g7) dX5_setAt_117 (I2 := (va_up (va_up (va_up (va_up I (kk + 1) (upd v_writs (ix s1) s2)) (kk + 2) v_fires) (kk + 3) v_firstPayments) (kk + 4) v_nextPayments)) (zn4 (by omega : ((kk + 4) : Nat) ≠ (kk + 1)) (by omega : ((kk + 3) : Nat) ≠ (kk + 1)) (by omega : ((kk + 2) : Nat) ≠ (kk + 1))) ?_
  refine zb_iinc E dX5_setAt_118 1 rfl (v := (x3 + 1)) rfl (by decide) (lv2 := [(3, .int (x3 + 1)), (0, .ref (C.X.1 + kk))]) rfl ?_
  refine zb_goto E dX5_setAt_121 (tgt := 80) rfl ?_
  refine zb_sub [1, 0] rfl ?_
  exact ih (x3 + 1) (upd v_writs (ix s1) s2) h
theorem c_X5_setAt_b80 {C : zC} {I : Nat → Nat → Int32} {J : Nat → Nat → Int64} {Rr : Nat → Nat → Option Nat} {D : zD} (kk : Nat) (hkk : kk = 48 ∨ kk = 53) (N : Nat) (a1 : Int32) (a2 : Int32) (v_acts_count : Int32) (e_v_acts_count : I 37 6 = v_acts_count) (v_acts_kinds : (Nat → Int32)) (e_v_acts_kinds : I 38 = v_acts_kinds) (v_acts_terms : (Nat → Int32)) (e_v_acts_terms : I 40 = v_acts_terms) (v_acts_voidedBy : (Nat → Int32)) (e_v_acts_voidedBy : I 42 = v_acts_voidedBy) (y_v_fires : (Nat → Int32)) (y_v_firstPayments : (Nat → Int32)) (y_v_nextPayments : (Nat → Int32)) (y_v_writs : (Nat → Int32)) (E : zE C RX5 cX5_setAt 4 none ({ frames := 4, cells := 0, slots := 0, locals := 86 } : Room)) (hQ : C.Q = zQv C ({ frames := 4, cells := 0, slots := 0, locals := 86 } : Room) ((va_up (va_up (va_up (va_up I (kk + 1) y_v_writs) (kk + 2) y_v_fires) (kk + 3) y_v_firstPayments) (kk + 4) y_v_nextPayments), J, Rr, D)) (v_fires : (Nat → Int32)) (v_firstPayments : (Nat → Int32)) (v_nextPayments : (Nat → Int32))  : ∀ (n9 : Nat) (x3 : Int32) (v_writs : (Nat → Int32)), pKnown_setAt_b80 N a1 a2 v_acts_count v_acts_kinds v_acts_terms v_acts_voidedBy v_fires v_firstPayments v_nextPayments n9 x3 v_writs = some (y_v_fires, y_v_firstPayments, y_v_nextPayments, y_v_writs) → zB C (0, 0) 80 [(0, .ref (C.X.1 + kk)), (3, .int x3)] [] ((va_up (va_up (va_up (va_up I (kk + 1) v_writs) (kk + 2) v_fires) (kk + 3) v_firstPayments) (kk + 4) v_nextPayments), J, Rr, D) := by
  refine zlp2_ind (P := fun (x3 : Int32) (v_writs : (Nat → Int32)) => zB C (0, 0) 80 [(0, .ref (C.X.1 + kk)), (3, .int x3)] [] ((va_up (va_up (va_up (va_up I (kk + 1) v_writs) (kk + 2) v_fires) (kk + 3) v_firstPayments) (kk + 4) v_nextPayments), J, Rr, D)) (fun self ih => ?_)
  intro x3 v_writs h
  refine zb_iload_n E dX5_setAt_80 1 rfl rfl ?_
  refine zb_bipush E dX5_setAt_81 (v := 40) rfl ?_
  refine zb_icmp_ge E dX5_setAt_83 (tgt := 124) rfl (fun hc => ?_) (fun hc => ?_)
  · have h := if_t h hc
    obtain ⟨rfl, rfl, rfl, rfl⟩ := zinj4 h
    exact zb_vret E hQ rfl ⟨Nat.zero_le _, Nat.zero_le _⟩ dX5_setAt_124
  · have h := if_f h hc
    refine zb_aload_n E dX5_setAt_86 0 rfl rfl ?_
    refine zb_getX E kk (by omega) (zFk C.X hkk) rfl zin5 1 (by decide) zw_256 ((zup_n (by omega : (kk : Nat) ≠ (kk + 4))).trans ((zup_n (by omega : (kk : Nat) ≠ (kk + 3))).trans ((zup_n (by omega : (kk : Nat) ≠ (kk + 2))).trans (zup_n (by omega : (kk : Nat) ≠ (kk + 1)))))) rfl (v := .ref (C.X.1 + (kk + 1))) rfl dX5_setAt_87 ?_
    refine zb_iload_n E dX5_setAt_90 1 rfl rfl ?_
    refine zb_aload_n E dX5_setAt_91 0 rfl rfl ?_
    refine zb_getX E kk (by omega) (zFk C.X hkk) rfl zin5 1 (by decide) zw_256 ((zup_n (by omega : (kk : Nat) ≠ (kk + 4))).trans ((zup_n (by omega : (kk : Nat) ≠ (kk + 3))).trans ((zup_n (by omega : (kk : Nat) ≠ (kk + 2))).trans (zup_n (by omega : (kk : Nat) ≠ (kk + 1)))))) rfl (v := .ref (C.X.1 + (kk + 1))) rfl dX5_setAt_92 ?_
    refine zb_iload_n E dX5_setAt_95 1 rfl rfl ?_
    obtain ⟨g5, h⟩ := gd_s h
    refine zb_iald E (kk + 1) (by omega) (zFkA_1 hkk) (f := v_writs) (((zup_n (by omega : ((kk + 1) : Nat) ≠ (kk + 4))).trans ((zup_n (by omega : ((kk + 1) : Nat) ≠ (kk + 3))).trans ((zup_n (by omega : ((kk + 1) : Nat) ≠ (kk + 2))).trans zup_s)))) (ib_in g5) dX5_setAt_96 ?_
    refine zb_if_ne E dX5_setAt_97 (tgt := 111) rfl (fun hc => ?_) (fun hc => ?_)
    · have h := if_f h hc
      refine zb_aload_n E dX5_setAt_111 0 rfl rfl ?_
      refine zb_getX E kk (by omega) (zFk C.X hkk) rfl zin5 1 (by decide) zw_256 ((zup_n (by omega : (kk : Nat) ≠ (kk + 4))).trans ((zup_n (by omega : (kk : Nat) ≠ (kk + 3))).trans ((zup_n (by omega : (kk : Nat) ≠ (kk + 2))).trans (zup_n (by omega : (kk : Nat) ≠ (kk + 1)))))) rfl (v := .ref (C.X.1 + (kk + 1))) rfl dX5_setAt_112 ?_
      refine zb_iload_n E dX5_setAt_115 1 rfl rfl ?_
      refine zb_iald E (kk + 1) (by omega) (zFkA_1 hkk) (f := v_writs) (((zup_n (by omega : ((kk + 1) : Nat) ≠ (kk + 4))).trans ((zup_n (by omega : ((kk + 1) : Nat) ≠ (kk + 3))).trans ((zup_n (by omega : ((kk + 1) : Nat) ≠ (kk + 2))).trans zup_s)))) (ib_in g5) dX5_setAt_116 ?_
      exact c_X5_setAt_b117 kk hkk N a1 a2 v_acts_count e_v_acts_count v_acts_kinds e_v_acts_kinds v_acts_terms e_v_acts_terms v_acts_voidedBy e_v_acts_voidedBy y_v_fires y_v_firstPayments y_v_nextPayments y_v_writs E hQ x3 x3 (v_writs (ix x3)) v_fires v_firstPayments v_nextPayments v_writs self ih h
    · have h := if_t h hc
      refine zb_aload_n E dX5_setAt_100 0 rfl rfl ?_
      refine zb_getX E kk (by omega) (zFk C.X hkk) rfl zin5 1 (by decide) zw_256 ((zup_n (by omega : (kk : Nat) ≠ (kk + 4))).trans ((zup_n (by omega : (kk : Nat) ≠ (kk + 3))).trans ((zup_n (by omega : (kk : Nat) ≠ (kk + 2))).trans (zup_n (by omega : (kk : Nat) ≠ (kk + 1)))))) rfl (v := .ref (C.X.1 + (kk + 1))) rfl dX5_setAt_101 ?_
      refine zb_iload_n E dX5_setAt_104 1 rfl rfl ?_
      refine zb_iconst E dX5_setAt_105 (v := 1) rfl ?_
      refine zb_isub E dX5_setAt_106 ?_
      obtain ⟨g6, h⟩ := gd_s h
      refine zb_iald E (kk + 1) (by omega) (zFkA_1 hkk) (f := v_writs) (((zup_n (by omega : ((kk + 1) : Nat) ≠ (kk + 4))).trans ((zup_n (by omega : ((kk + 1) : Nat) ≠ (kk + 3))).trans ((zup_n (by omega : ((kk + 1) : Nat) ≠ (kk + 2))).trans zup_s)))) (ib_in g6) dX5_setAt_107 ?_
      refine zb_goto E dX5_setAt_108 (tgt := 117) rfl ?_
      exact c_X5_setAt_b117 kk hkk N a1 a2 v_acts_count e_v_acts_count v_acts_kinds e_v_acts_kinds v_acts_terms e_v_acts_terms v_acts_voidedBy e_v_acts_voidedBy y_v_fires y_v_firstPayments y_v_nextPayments y_v_writs E hQ x3 x3 (v_writs (ix (x3 - 1))) v_fires v_firstPayments v_nextPayments v_writs self ih h
theorem c_X5_setAt_b78 {C : zC} {I : Nat → Nat → Int32} {J : Nat → Nat → Int64} {Rr : Nat → Nat → Option Nat} {D : zD} (kk : Nat) (hkk : kk = 48 ∨ kk = 53) (N : Nat) (a1 : Int32) (a2 : Int32) (v_acts_count : Int32) (e_v_acts_count : I 37 6 = v_acts_count) (v_acts_kinds : (Nat → Int32)) (e_v_acts_kinds : I 38 = v_acts_kinds) (v_acts_terms : (Nat → Int32)) (e_v_acts_terms : I 40 = v_acts_terms) (v_acts_voidedBy : (Nat → Int32)) (e_v_acts_voidedBy : I 42 = v_acts_voidedBy) (y_v_fires : (Nat → Int32)) (y_v_firstPayments : (Nat → Int32)) (y_v_nextPayments : (Nat → Int32)) (y_v_writs : (Nat → Int32)) (E : zE C RX5 cX5_setAt 4 none ({ frames := 4, cells := 0, slots := 0, locals := 86 } : Room)) (hQ : C.Q = zQv C ({ frames := 4, cells := 0, slots := 0, locals := 86 } : Room) ((va_up (va_up (va_up (va_up I (kk + 1) y_v_writs) (kk + 2) y_v_fires) (kk + 3) y_v_firstPayments) (kk + 4) y_v_nextPayments), J, Rr, D)) (v_fires : (Nat → Int32)) (v_firstPayments : (Nat → Int32)) (v_nextPayments : (Nat → Int32)) (v_writs : (Nat → Int32)) (h : pKnown_setAt_b78 N a1 a2 v_acts_count v_acts_kinds v_acts_terms v_acts_voidedBy v_fires v_firstPayments v_nextPayments v_writs = some (y_v_fires, y_v_firstPayments, y_v_nextPayments, y_v_writs)) : zB C (0, 0) 78 [(0, .ref (C.X.1 + kk))] [] ((va_up (va_up (va_up (va_up I (kk + 1) v_writs) (kk + 2) v_fires) (kk + 3) v_firstPayments) (kk + 4) v_nextPayments), J, Rr, D) := by
  refine zb_iconst E dX5_setAt_78 (v := 1) rfl ?_
  refine zb_istore_n E dX5_setAt_79 rfl (by decide) (lv2 := [(3, .int 1), (0, .ref (C.X.1 + kk))]) rfl ?_
  refine zb_sub [1, 0] rfl ?_
  exact c_X5_setAt_b80 kk hkk N a1 a2 v_acts_count e_v_acts_count v_acts_kinds e_v_acts_kinds v_acts_terms e_v_acts_terms v_acts_voidedBy e_v_acts_voidedBy y_v_fires y_v_firstPayments y_v_nextPayments y_v_writs E hQ v_fires v_firstPayments v_nextPayments _ 1 v_writs h
theorem c_X5_setAt_0 {C : zC} {I : Nat → Nat → Int32} {J : Nat → Nat → Int64} {Rr : Nat → Nat → Option Nat} {D : zD} (kk : Nat) (hkk : kk = 48 ∨ kk = 53) (N : Nat) (a1 : Int32) (a2 : Int32) (v_acts_count : Int32) (e_v_acts_count : I 37 6 = v_acts_count) (v_acts_kinds : (Nat → Int32)) (e_v_acts_kinds : I 38 = v_acts_kinds) (v_acts_terms : (Nat → Int32)) (e_v_acts_terms : I 40 = v_acts_terms) (v_acts_voidedBy : (Nat → Int32)) (e_v_acts_voidedBy : I 42 = v_acts_voidedBy) (y_v_fires : (Nat → Int32)) (y_v_firstPayments : (Nat → Int32)) (y_v_nextPayments : (Nat → Int32)) (y_v_writs : (Nat → Int32)) (E : zE C RX5 cX5_setAt 4 none ({ frames := 4, cells := 0, slots := 0, locals := 86 } : Room)) (hQ : C.Q = zQv C ({ frames := 4, cells := 0, slots := 0, locals := 86 } : Room) ((va_up (va_up (va_up (va_up I (kk + 1) y_v_writs) (kk + 2) y_v_fires) (kk + 3) y_v_firstPayments) (kk + 4) y_v_nextPayments), J, Rr, D)) (v_fires : (Nat → Int32)) (v_firstPayments : (Nat → Int32)) (v_nextPayments : (Nat → Int32)) (v_writs : (Nat → Int32)) (h : pKnown_setAt N a1 a2 v_acts_count v_acts_kinds v_acts_terms v_acts_voidedBy v_fires v_firstPayments v_nextPayments v_writs = some (y_v_fires, y_v_firstPayments, y_v_nextPayments, y_v_writs)) : zB C (0, 0) 0 [(0, .ref (C.X.1 + kk)), (1, .int a1), (2, .int a2)] [] ((va_up (va_up (va_up (va_up I (kk + 1) v_writs) (kk + 2) v_fires) (kk + 3) v_firstPayments) (kk + 4) v_nextPayments), J, Rr, D) := by
  refine zb_aload_n E dX5_setAt_0 0 rfl rfl ?_
  refine zb_getX E kk (by omega) (zFk C.X hkk) rfl zin5 1 (by decide) zw_256 ((zup_n (by omega : (kk : Nat) ≠ (kk + 4))).trans ((zup_n (by omega : (kk : Nat) ≠ (kk + 3))).trans ((zup_n (by omega : (kk : Nat) ≠ (kk + 2))).trans (zup_n (by omega : (kk : Nat) ≠ (kk + 1)))))) rfl (v := .ref (C.X.1 + (kk + 1))) rfl dX5_setAt_1 ?_
  refine zb_iconst E dX5_setAt_4 (v := 0) rfl ?_
  refine zb_cSv E [.ref (C.X.1 + (kk + 1)), .int 0] zy_J7_fill_53178 zw_906 (c_J7_fill_53178 (kk + 1) (by omega) (zFkA_1 hkk) (by decide)) (by decide) rfl rfl (by first | decide | simp [Value.category]) dX5_setAt_5 (cs2 := (0, 0)) rfl ?_
  refine zb_S (S2 := ((va_up (va_up (va_up (va_up I (kk + 1) (fun _ => 0)) (kk + 2) v_fires) (kk + 3) v_firstPayments) (kk + 4) v_nextPayments), J, Rr, D)) (zS_eq (zn4 (by omega : ((kk + 4) : Nat) ≠ (kk + 1)) (by omega : ((kk + 3) : Nat) ≠ (kk + 1)) (by omega : ((kk + 2) : Nat) ≠ (kk + 1))) rfl) ?_
  refine zb_aload_n E dX5_setAt_8 0 rfl rfl ?_
  refine zb_getX E kk (by omega) (zFk C.X hkk) rfl zin5 2 (by decide) zw_257 ((zup_n (by omega : (kk : Nat) ≠ (kk + 4))).trans ((zup_n (by omega : (kk : Nat) ≠ (kk + 3))).trans ((zup_n (by omega : (kk : Nat) ≠ (kk + 2))).trans (zup_n (by omega : (kk : Nat) ≠ (kk + 1)))))) rfl (v := .ref (C.X.1 + (kk + 2))) rfl dX5_setAt_9 ?_
  refine zb_iconst E dX5_setAt_12 (v := 0) rfl ?_
  refine zb_cSv E [.ref (C.X.1 + (kk + 2)), .int 0] zy_J7_fill_53178 zw_906 (c_J7_fill_53178 (kk + 2) (by omega) (zFkA_2 hkk) (by decide)) (by decide) rfl rfl (by first | decide | simp [Value.category]) dX5_setAt_13 (cs2 := (0, 0)) rfl ?_
  refine zb_S (S2 := ((va_up (va_up (va_up (va_up I (kk + 1) (fun _ => 0)) (kk + 2) (fun _ => 0)) (kk + 3) v_firstPayments) (kk + 4) v_nextPayments), J, Rr, D)) (zS_eq (zn3 (by omega : ((kk + 4) : Nat) ≠ (kk + 2)) (by omega : ((kk + 3) : Nat) ≠ (kk + 2))) rfl) ?_
  refine zb_aload_n E dX5_setAt_16 0 rfl rfl ?_
  refine zb_getX E kk (by omega) (zFk C.X hkk) rfl zin5 3 (by decide) zw_258 ((zup_n (by omega : (kk : Nat) ≠ (kk + 4))).trans ((zup_n (by omega : (kk : Nat) ≠ (kk + 3))).trans ((zup_n (by omega : (kk : Nat) ≠ (kk + 2))).trans (zup_n (by omega : (kk : Nat) ≠ (kk + 1)))))) rfl (v := .ref (C.X.1 + (kk + 3))) rfl dX5_setAt_17 ?_
  refine zb_iconst E dX5_setAt_20 (v := 0) rfl ?_
  refine zb_cSv E [.ref (C.X.1 + (kk + 3)), .int 0] zy_J7_fill_53178 zw_906 (c_J7_fill_53178 (kk + 3) (by omega) (zFkA_3 hkk) (by decide)) (by decide) rfl rfl (by first | decide | simp [Value.category]) dX5_setAt_21 (cs2 := (0, 0)) rfl ?_
  refine zb_S (S2 := ((va_up (va_up (va_up (va_up I (kk + 1) (fun _ => 0)) (kk + 2) (fun _ => 0)) (kk + 3) (fun _ => 0)) (kk + 4) v_nextPayments), J, Rr, D)) (zS_eq (zn2 (by omega : ((kk + 4) : Nat) ≠ (kk + 3))) rfl) ?_
  refine zb_iload_n E dX5_setAt_24 1 rfl rfl ?_
  refine zb_aload_n E dX5_setAt_25 0 rfl rfl ?_
  refine zb_getX E kk (by omega) (zFk C.X hkk) rfl zin5 0 (by decide) zw_255 ((zup_n (by omega : (kk : Nat) ≠ (kk + 4))).trans ((zup_n (by omega : (kk : Nat) ≠ (kk + 3))).trans ((zup_n (by omega : (kk : Nat) ≠ (kk + 2))).trans (zup_n (by omega : (kk : Nat) ≠ (kk + 1)))))) rfl (v := .ref (C.X.1 + 37)) rfl dX5_setAt_26 ?_
  obtain ⟨rc1, hc_29, h⟩ := bd1_s h
  refine zb_cVi E [] 37 zy_X0_size zw_907 (by decide) (zF_37 _ _ _ _) rfl (c_X0_size v_acts_count (zcf (f := ((va_up (va_up (va_up (va_up I (kk + 1) (fun _ => 0)) (kk + 2) (fun _ => 0)) (kk + 3) (fun _ => 0)) (kk + 4) v_nextPayments) 37)) ((zup_n (by omega : (37 : Nat) ≠ (kk + 4))).trans ((zup_n (by omega : (37 : Nat) ≠ (kk + 3))).trans ((zup_n (by omega : (37 : Nat) ≠ (kk + 2))).trans (zup_n (by omega : (37 : Nat) ≠ (kk + 1)))))) (by exact e_v_acts_count)) hc_29) (by decide) rfl rfl (by first | decide | simp [Value.category]) dX5_setAt_29 (cs2 := (0, 0)) rfl ?_
  refine zb_mmin E zYm_mmin zw_908 (by decide) (by first | decide | simp [Value.category]) dX5_setAt_32 ?_
  refine zb_istore_n E dX5_setAt_35 rfl (by decide) (lv2 := [(3, .int (m_min a1 rc1)), (0, .ref (C.X.1 + kk)), (1, .int a1), (2, .int a2)]) rfl ?_
  refine zb_sub [1, 2, 3, 0] rfl ?_
  exact c_X5_setAt_b36 kk hkk N a1 a2 v_acts_count e_v_acts_count v_acts_kinds e_v_acts_kinds v_acts_terms e_v_acts_terms v_acts_voidedBy e_v_acts_voidedBy y_v_fires y_v_firstPayments y_v_nextPayments y_v_writs E hQ _ (fun v_fires_z1 v_firstPayments_z2 v_nextPayments_z3 v_writs_z4 h => c_X5_setAt_b78 kk hkk N a1 a2 v_acts_count e_v_acts_count v_acts_kinds e_v_acts_kinds v_acts_terms e_v_acts_terms v_acts_voidedBy e_v_acts_voidedBy y_v_fires y_v_firstPayments y_v_nextPayments y_v_writs E hQ v_fires_z1 v_firstPayments_z2 v_nextPayments_z3 v_writs_z4 h) _ (m_min a1 rc1) (fun _ => 0) (fun _ => 0) v_nextPayments (fun _ => 0) h
theorem c_X5_setAt {l : Launch} {X : zX} {I : Nat → Nat → Int32} {J : Nat → Nat → Int64} {Rr : Nat → Nat → Option Nat} {D : zD} (kk : Nat) (hkk : kk = 48 ∨ kk = 53) {N : Nat} {a1 : Int32} {a2 : Int32} (v_acts_count : Int32) (e_v_acts_count : I 37 6 = v_acts_count) (v_acts_kinds : (Nat → Int32)) (e_v_acts_kinds : I 38 = v_acts_kinds) (v_acts_terms : (Nat → Int32)) (e_v_acts_terms : I 40 = v_acts_terms) (v_acts_voidedBy : (Nat → Int32)) (e_v_acts_voidedBy : I 42 = v_acts_voidedBy) (v_fires : (Nat → Int32)) (e_v_fires : I (kk + 2) = v_fires) (v_firstPayments : (Nat → Int32)) (e_v_firstPayments : I (kk + 3) = v_firstPayments) (v_nextPayments : (Nat → Int32)) (e_v_nextPayments : I (kk + 4) = v_nextPayments) (v_writs : (Nat → Int32)) (e_v_writs : I (kk + 1) = v_writs) {y_v_fires : (Nat → Int32)} {y_v_firstPayments : (Nat → Int32)} {y_v_nextPayments : (Nat → Int32)} {y_v_writs : (Nat → Int32)} (h : pKnown_setAt N a1 a2 v_acts_count v_acts_kinds v_acts_terms v_acts_voidedBy v_fires v_firstPayments v_nextPayments v_writs = some (y_v_fires, y_v_firstPayments, y_v_nextPayments, y_v_writs)) : zMv l yX5_setAt cX5_setAt 4 none ({ frames := 4, cells := 0, slots := 0, locals := 86 } : Room) X [.ref (X.1 + kk), .int a1, .int a2] (I, J, Rr, D) ((va_up (va_up (va_up (va_up I (kk + 1) y_v_writs) (kk + 2) y_v_fires) (kk + 3) y_v_firstPayments) (kk + 4) y_v_nextPayments), J, Rr, D) := by
  refine zMv.of (by decide) (Nat.le_of_ble_eq_true rfl) (fun C E hl hX hQ => ?_)
  subst hl
  subst hX
  have eI0 : (va_up (va_up (va_up (va_up I (kk + 1) v_writs) (kk + 2) v_fires) (kk + 3) v_firstPayments) (kk + 4) v_nextPayments) = I := by rw [zup_idE e_v_writs, zup_idE e_v_fires, zup_idE e_v_firstPayments, zup_idE e_v_nextPayments]
  have eJ0 : J = J := rfl
  refine zb_S (S2 := ((va_up (va_up (va_up (va_up I (kk + 1) v_writs) (kk + 2) v_fires) (kk + 3) v_firstPayments) (kk + 4) v_nextPayments), J, Rr, D)) (zS_eq eI0.symm eJ0.symm) ?_
  exact c_X5_setAt_0 kk hkk N a1 a2 v_acts_count e_v_acts_count v_acts_kinds e_v_acts_kinds v_acts_terms e_v_acts_terms v_acts_voidedBy e_v_acts_voidedBy y_v_fires y_v_firstPayments y_v_nextPayments y_v_writs E hQ v_fires v_firstPayments v_nextPayments v_writs h
-- ChequeredCloth$Known.writOf
theorem dX5_writOf_0 : decode cX5_writOf 0 = .ok (.iload_n 1, 1) := by decide +kernel
theorem dX5_writOf_1 : decode cX5_writOf 1 = .ok (.invokestatic 57, 3) := by decide +kernel
theorem dX5_writOf_4 : decode cX5_writOf 4 = .ok (.ifCond .eq 20, 3) := by decide +kernel
theorem dX5_writOf_7 : decode cX5_writOf 7 = .ok (.aload_n 0, 1) := by decide +kernel
theorem dX5_writOf_8 : decode cX5_writOf 8 = .ok (.getfield 24, 3) := by decide +kernel
theorem dX5_writOf_11 : decode cX5_writOf 11 = .ok (.getfield 61, 3) := by decide +kernel
theorem dX5_writOf_14 : decode cX5_writOf 14 = .ok (.aload_n 0, 1) := by decide +kernel
theorem dX5_writOf_15 : decode cX5_writOf 15 = .ok (.getfield 9, 3) := by decide +kernel
theorem dX5_writOf_18 : decode cX5_writOf 18 = .ok (.iload_n 1, 1) := by decide +kernel
theorem dX5_writOf_19 : decode cX5_writOf 19 = .ok (.iaload, 1) := by decide +kernel
theorem dX5_writOf_20 : decode cX5_writOf 20 = .ok (.aaload, 1) := by decide +kernel
theorem dX5_writOf_21 : decode cX5_writOf 21 = .ok (.goto 4, 3) := by decide +kernel
theorem dX5_writOf_24 : decode cX5_writOf 24 = .ok (.aconst_null, 1) := by decide +kernel
theorem dX5_writOf_25 : decode cX5_writOf 25 = .ok (.areturn, 1) := by decide +kernel
theorem zy_X5_writOf : zYv yX5_writOf cX5_writOf 2 (Option.some (FieldType.object "ChequeredCloth$Writ")) 1 := ⟨zw_938, zw_939, zw_10, zw_940, by decide, by decide, by decide⟩
theorem c_X5_writOf_0 {C : zC} {I : Nat → Nat → Int32} {J : Nat → Nat → Int64} {Rr : Nat → Nat → Option Nat} {D : zD} (kk : Nat) (hkk : kk = 48 ∨ kk = 53) (a1 : Int32) (v_acts_writs : (Nat → Option Nat)) (e_v_acts_writs : Rr 43 = v_acts_writs) (v_writs : (Nat → Int32)) (e_v_writs : I (kk + 1) = v_writs) (rr : (Option Nat)) (E : zE C RX5 cX5_writOf 2 (Option.some (FieldType.object "ChequeredCloth$Writ")) ({ frames := 1, cells := 0, slots := 0, locals := 20 } : Room)) (hQ : C.Q = zQq C ({ frames := 1, cells := 0, slots := 0, locals := 20 } : Room) (zq C.X rr) (I, J, Rr, D)) (h : pKnown_writOf a1 v_acts_writs v_writs = some rr) : zB C (0, 0) 0 [(0, .ref (C.X.1 + kk)), (1, .int a1)] [] (I, J, Rr, D) := by
  refine zb_iload_n E dX5_writOf_0 1 rfl rfl ?_
  obtain ⟨rc1, hc_1, h⟩ := bd1_s h
  refine zb_cSNi E [.int a1] zy_X11_isTerm znw_35 (c_X11_isTerm hc_1) (by decide) rfl rfl (by first | decide | simp [Value.category]) dX5_writOf_1 (cs2 := (0, 0)) rfl ?_
  refine zb_if_eq E dX5_writOf_4 (tgt := 24) rfl (fun hc => ?_) (fun hc => ?_)
  · have h := if_t h hc
    refine zb_null E dX5_writOf_24 ?_
    obtain rfl := zinj1 h
    exact zb_qret E hQ rfl (Or.inl ⟨_, rfl⟩) ⟨by decide, by decide⟩ dX5_writOf_25
  · have h := if_f h hc
    refine zb_aload_n E dX5_writOf_7 0 rfl rfl ?_
    refine zb_getX E kk (by omega) (zFk C.X hkk) rfl zin5 0 (by decide) zw_255 rfl rfl (v := .ref (C.X.1 + 37)) rfl dX5_writOf_8 ?_
    refine zb_getNX E 37 (by decide) (zF_37 C.X) rfl zin0 5 (by decide) znw_13 rfl rfl (v := .ref (C.X.1 + 43)) rfl dX5_writOf_11 ?_
    refine zb_aload_n E dX5_writOf_14 0 rfl rfl ?_
    refine zb_getX E kk (by omega) (zFk C.X hkk) rfl zin5 1 (by decide) zw_256 rfl rfl (v := .ref (C.X.1 + (kk + 1))) rfl dX5_writOf_15 ?_
    refine zb_iload_n E dX5_writOf_18 1 rfl rfl ?_
    obtain ⟨g2, h⟩ := gd_s h
    refine zb_iald E (kk + 1) (by omega) (zFkA_1 hkk) (f := v_writs) e_v_writs (ib_in g2) dX5_writOf_19 ?_
    obtain ⟨g3, h⟩ := gd_s h
    refine zb_raldW E 43 (by decide) zF_43 (f := v_acts_writs) e_v_acts_writs (ib_in g3) dX5_writOf_20 ?_
    refine zb_goto E dX5_writOf_21 (tgt := 25) rfl ?_
    obtain rfl := zinj1 h
    exact zb_qret E hQ rfl (Or.inl ⟨_, rfl⟩) ⟨by decide, by decide⟩ dX5_writOf_25
theorem c_X5_writOf {l : Launch} {X : zX} {I : Nat → Nat → Int32} {J : Nat → Nat → Int64} {Rr : Nat → Nat → Option Nat} {D : zD} (kk : Nat) (hkk : kk = 48 ∨ kk = 53) {a1 : Int32} (v_acts_writs : (Nat → Option Nat)) (e_v_acts_writs : Rr 43 = v_acts_writs) (v_writs : (Nat → Int32)) (e_v_writs : I (kk + 1) = v_writs) {rr : (Option Nat)} (h : pKnown_writOf a1 v_acts_writs v_writs = some rr) : zMq l yX5_writOf cX5_writOf 2 (Option.some (FieldType.object "ChequeredCloth$Writ")) ({ frames := 1, cells := 0, slots := 0, locals := 20 } : Room) X [.ref (X.1 + kk), .int a1] (I, J, Rr, D) (zq X rr) (I, J, Rr, D) := by
  refine zMq.of (by decide) (Nat.le_of_ble_eq_true rfl) (fun C E hl hX hQ => ?_)
  subst hl
  subst hX
  have eI0 : I = I := rfl
  have eJ0 : J = J := rfl
  refine zb_S (S2 := (I, J, Rr, D)) (zS_eq eI0.symm eJ0.symm) ?_
  exact c_X5_writOf_0 kk hkk a1 v_acts_writs e_v_acts_writs v_writs e_v_writs rr E hQ h
-- ChequeredCloth$Known.firstPayment
theorem dX5_firstPayment_0 : decode cX5_firstPayment 0 = .ok (.iload_n 1, 1) := by decide +kernel
theorem dX5_firstPayment_1 : decode cX5_firstPayment 1 = .ok (.invokestatic 57, 3) := by decide +kernel
theorem dX5_firstPayment_4 : decode cX5_firstPayment 4 = .ok (.ifCond .eq 12, 3) := by decide +kernel
theorem dX5_firstPayment_7 : decode cX5_firstPayment 7 = .ok (.aload_n 0, 1) := by decide +kernel
theorem dX5_firstPayment_8 : decode cX5_firstPayment 8 = .ok (.getfield 18, 3) := by decide +kernel
theorem dX5_firstPayment_11 : decode cX5_firstPayment 11 = .ok (.iload_n 1, 1) := by decide +kernel
theorem dX5_firstPayment_12 : decode cX5_firstPayment 12 = .ok (.iaload, 1) := by decide +kernel
theorem dX5_firstPayment_13 : decode cX5_firstPayment 13 = .ok (.goto 4, 3) := by decide +kernel
theorem dX5_firstPayment_16 : decode cX5_firstPayment 16 = .ok (.iconst 0, 1) := by decide +kernel
theorem dX5_firstPayment_17 : decode cX5_firstPayment 17 = .ok (.ireturn, 1) := by decide +kernel
theorem zy_X5_firstPayment : zYv yX5_firstPayment cX5_firstPayment 2 (some .int) 1 := ⟨zw_1035, zw_1036, zw_10, zw_1037, by decide, by decide, by decide⟩
theorem c_X5_firstPayment_0 {C : zC} {I : Nat → Nat → Int32} {J : Nat → Nat → Int64} {Rr : Nat → Nat → Option Nat} {D : zD} (kk : Nat) (hkk : kk = 48 ∨ kk = 53) (a1 : Int32) (v_firstPayments : (Nat → Int32)) (e_v_firstPayments : I (kk + 3) = v_firstPayments) (rr : Int32) (E : zE C RX5 cX5_firstPayment 2 (some .int) ({ frames := 1, cells := 0, slots := 0, locals := 20 } : Room)) (hQ : C.Q = zQi C ({ frames := 1, cells := 0, slots := 0, locals := 20 } : Room) rr (I, J, Rr, D)) (h : pKnown_firstPayment a1 v_firstPayments = some rr) : zB C (0, 0) 0 [(0, .ref (C.X.1 + kk)), (1, .int a1)] [] (I, J, Rr, D) := by
  refine zb_iload_n E dX5_firstPayment_0 1 rfl rfl ?_
  obtain ⟨rc1, hc_1, h⟩ := bd1_s h
  refine zb_cSNi E [.int a1] zy_X11_isTerm znw_35 (c_X11_isTerm hc_1) (by decide) rfl rfl (by first | decide | simp [Value.category]) dX5_firstPayment_1 (cs2 := (0, 0)) rfl ?_
  refine zb_if_eq E dX5_firstPayment_4 (tgt := 16) rfl (fun hc => ?_) (fun hc => ?_)
  · have h := if_t h hc
    refine zb_iconst E dX5_firstPayment_16 (v := 0) rfl ?_
    obtain rfl := zinj1 h
    exact zb_iret E hQ rfl ⟨Nat.zero_le _, Nat.zero_le _⟩ dX5_firstPayment_17
  · have h := if_f h hc
    refine zb_aload_n E dX5_firstPayment_7 0 rfl rfl ?_
    refine zb_getX E kk (by omega) (zFk C.X hkk) rfl zin5 3 (by decide) zw_258 rfl rfl (v := .ref (C.X.1 + (kk + 3))) rfl dX5_firstPayment_8 ?_
    refine zb_iload_n E dX5_firstPayment_11 1 rfl rfl ?_
    obtain ⟨g2, h⟩ := gd_s h
    refine zb_iald E (kk + 3) (by omega) (zFkA_3 hkk) (f := v_firstPayments) e_v_firstPayments (ib_in g2) dX5_firstPayment_12 ?_
    refine zb_goto E dX5_firstPayment_13 (tgt := 17) rfl ?_
    obtain rfl := zinj1 h
    exact zb_iret E hQ rfl ⟨Nat.zero_le _, Nat.zero_le _⟩ dX5_firstPayment_17
theorem c_X5_firstPayment {l : Launch} {X : zX} {I : Nat → Nat → Int32} {J : Nat → Nat → Int64} {Rr : Nat → Nat → Option Nat} {D : zD} (kk : Nat) (hkk : kk = 48 ∨ kk = 53) {a1 : Int32} (v_firstPayments : (Nat → Int32)) (e_v_firstPayments : I (kk + 3) = v_firstPayments) {rr : Int32} (h : pKnown_firstPayment a1 v_firstPayments = some rr) : zMi l yX5_firstPayment cX5_firstPayment 2 (some .int) ({ frames := 1, cells := 0, slots := 0, locals := 20 } : Room) X [.ref (X.1 + kk), .int a1] (I, J, Rr, D) rr (I, J, Rr, D) := by
  refine zMi.of (by decide) (Nat.le_of_ble_eq_true rfl) (fun C E hl hX hQ => ?_)
  subst hl
  subst hX
  have eI0 : I = I := rfl
  have eJ0 : J = J := rfl
  refine zb_S (S2 := (I, J, Rr, D)) (zS_eq eI0.symm eJ0.symm) ?_
  exact c_X5_firstPayment_0 kk hkk a1 v_firstPayments e_v_firstPayments rr E hQ h
-- ChequeredCloth$Known.fireOf
theorem dX5_fireOf_0 : decode cX5_fireOf 0 = .ok (.iload_n 1, 1) := by decide +kernel
theorem dX5_fireOf_1 : decode cX5_fireOf 1 = .ok (.invokestatic 57, 3) := by decide +kernel
theorem dX5_fireOf_4 : decode cX5_fireOf 4 = .ok (.ifCond .eq 29, 3) := by decide +kernel
theorem dX5_fireOf_7 : decode cX5_fireOf 7 = .ok (.aload_n 0, 1) := by decide +kernel
theorem dX5_fireOf_8 : decode cX5_fireOf 8 = .ok (.getfield 15, 3) := by decide +kernel
theorem dX5_fireOf_11 : decode cX5_fireOf 11 = .ok (.iload_n 1, 1) := by decide +kernel
theorem dX5_fireOf_12 : decode cX5_fireOf 12 = .ok (.iaload, 1) := by decide +kernel
theorem dX5_fireOf_13 : decode cX5_fireOf 13 = .ok (.ifCond .le 20, 3) := by decide +kernel
theorem dX5_fireOf_16 : decode cX5_fireOf 16 = .ok (.aload_n 0, 1) := by decide +kernel
theorem dX5_fireOf_17 : decode cX5_fireOf 17 = .ok (.getfield 24, 3) := by decide +kernel
theorem dX5_fireOf_20 : decode cX5_fireOf 20 = .ok (.getfield 64, 3) := by decide +kernel
theorem dX5_fireOf_23 : decode cX5_fireOf 23 = .ok (.aload_n 0, 1) := by decide +kernel
theorem dX5_fireOf_24 : decode cX5_fireOf 24 = .ok (.getfield 15, 3) := by decide +kernel
theorem dX5_fireOf_27 : decode cX5_fireOf 27 = .ok (.iload_n 1, 1) := by decide +kernel
theorem dX5_fireOf_28 : decode cX5_fireOf 28 = .ok (.iaload, 1) := by decide +kernel
theorem dX5_fireOf_29 : decode cX5_fireOf 29 = .ok (.iaload, 1) := by decide +kernel
theorem dX5_fireOf_30 : decode cX5_fireOf 30 = .ok (.goto 4, 3) := by decide +kernel
theorem dX5_fireOf_33 : decode cX5_fireOf 33 = .ok (.iconst 0, 1) := by decide +kernel
theorem dX5_fireOf_34 : decode cX5_fireOf 34 = .ok (.ireturn, 1) := by decide +kernel
theorem zy_X5_fireOf : zYv yX5_fireOf cX5_fireOf 2 (some .int) 1 := ⟨zw_1048, zw_1049, zw_10, zw_1050, by decide, by decide, by decide⟩
theorem c_X5_fireOf_0 {C : zC} {I : Nat → Nat → Int32} {J : Nat → Nat → Int64} {Rr : Nat → Nat → Option Nat} {D : zD} (kk : Nat) (hkk : kk = 48 ∨ kk = 53) (a1 : Int32) (v_acts_amounts : (Nat → Int32)) (e_v_acts_amounts : I 41 = v_acts_amounts) (v_fires : (Nat → Int32)) (e_v_fires : I (kk + 2) = v_fires) (rr : Int32) (E : zE C RX5 cX5_fireOf 2 (some .int) ({ frames := 1, cells := 0, slots := 0, locals := 20 } : Room)) (hQ : C.Q = zQi C ({ frames := 1, cells := 0, slots := 0, locals := 20 } : Room) rr (I, J, Rr, D)) (h : pKnown_fireOf a1 v_acts_amounts v_fires = some rr) : zB C (0, 0) 0 [(0, .ref (C.X.1 + kk)), (1, .int a1)] [] (I, J, Rr, D) := by
  refine zb_iload_n E dX5_fireOf_0 1 rfl rfl ?_
  obtain ⟨rc1, hc_1, h⟩ := bd1_s h
  refine zb_cSNi E [.int a1] zy_X11_isTerm znw_35 (c_X11_isTerm hc_1) (by decide) rfl rfl (by first | decide | simp [Value.category]) dX5_fireOf_1 (cs2 := (0, 0)) rfl ?_
  refine zb_if_eq E dX5_fireOf_4 (tgt := 33) rfl (fun hc => ?_) (fun hc => ?_)
  · have h := if_t h hc
    refine zb_iconst E dX5_fireOf_33 (v := 0) rfl ?_
    obtain rfl := zinj1 h
    exact zb_iret E hQ rfl ⟨Nat.zero_le _, Nat.zero_le _⟩ dX5_fireOf_34
  · have h := if_f h hc
    refine zb_aload_n E dX5_fireOf_7 0 rfl rfl ?_
    refine zb_getX E kk (by omega) (zFk C.X hkk) rfl zin5 2 (by decide) zw_257 rfl rfl (v := .ref (C.X.1 + (kk + 2))) rfl dX5_fireOf_8 ?_
    refine zb_iload_n E dX5_fireOf_11 1 rfl rfl ?_
    obtain ⟨g2, h⟩ := gd_s h
    refine zb_iald E (kk + 2) (by omega) (zFkA_2 hkk) (f := v_fires) e_v_fires (ib_in g2) dX5_fireOf_12 ?_
    refine zb_if_le E dX5_fireOf_13 (tgt := 33) rfl (fun hc => ?_) (fun hc => ?_)
    · have h := if_t h hc
      refine zb_iconst E dX5_fireOf_33 (v := 0) rfl ?_
      obtain rfl := zinj1 h
      exact zb_iret E hQ rfl ⟨Nat.zero_le _, Nat.zero_le _⟩ dX5_fireOf_34
    · have h := if_f h hc
      refine zb_aload_n E dX5_fireOf_16 0 rfl rfl ?_
      refine zb_getX E kk (by omega) (zFk C.X hkk) rfl zin5 0 (by decide) zw_255 rfl rfl (v := .ref (C.X.1 + 37)) rfl dX5_fireOf_17 ?_
      refine zb_getNX E 37 (by decide) (zF_37 C.X) rfl zin0 3 (by decide) znw_11 rfl rfl (v := .ref (C.X.1 + 41)) rfl dX5_fireOf_20 ?_
      refine zb_aload_n E dX5_fireOf_23 0 rfl rfl ?_
      refine zb_getX E kk (by omega) (zFk C.X hkk) rfl zin5 2 (by decide) zw_257 rfl rfl (v := .ref (C.X.1 + (kk + 2))) rfl dX5_fireOf_24 ?_
      refine zb_iload_n E dX5_fireOf_27 1 rfl rfl ?_
      refine zb_iald E (kk + 2) (by omega) (zFkA_2 hkk) (f := v_fires) e_v_fires (ib_in g2) dX5_fireOf_28 ?_
      obtain ⟨g3, h⟩ := gd_s h
      refine zb_iald E 41 (by decide) zF_41 (f := v_acts_amounts) e_v_acts_amounts (ib_in g3) dX5_fireOf_29 ?_
      refine zb_goto E dX5_fireOf_30 (tgt := 34) rfl ?_
      obtain rfl := zinj1 h
      exact zb_iret E hQ rfl ⟨Nat.zero_le _, Nat.zero_le _⟩ dX5_fireOf_34
theorem c_X5_fireOf {l : Launch} {X : zX} {I : Nat → Nat → Int32} {J : Nat → Nat → Int64} {Rr : Nat → Nat → Option Nat} {D : zD} (kk : Nat) (hkk : kk = 48 ∨ kk = 53) {a1 : Int32} (v_acts_amounts : (Nat → Int32)) (e_v_acts_amounts : I 41 = v_acts_amounts) (v_fires : (Nat → Int32)) (e_v_fires : I (kk + 2) = v_fires) {rr : Int32} (h : pKnown_fireOf a1 v_acts_amounts v_fires = some rr) : zMi l yX5_fireOf cX5_fireOf 2 (some .int) ({ frames := 1, cells := 0, slots := 0, locals := 20 } : Room) X [.ref (X.1 + kk), .int a1] (I, J, Rr, D) rr (I, J, Rr, D) := by
  refine zMi.of (by decide) (Nat.le_of_ble_eq_true rfl) (fun C E hl hX hQ => ?_)
  subst hl
  subst hX
  have eI0 : I = I := rfl
  have eJ0 : J = J := rfl
  refine zb_S (S2 := (I, J, Rr, D)) (zS_eq eI0.symm eJ0.symm) ?_
  exact c_X5_fireOf_0 kk hkk a1 v_acts_amounts e_v_acts_amounts v_fires e_v_fires rr E hQ h
-- ChequeredCloth$Known.nextPayment
theorem dX5_nextPayment_0 : decode cX5_nextPayment 0 = .ok (.iload_n 1, 1) := by decide +kernel
theorem dX5_nextPayment_1 : decode cX5_nextPayment 1 = .ok (.iconst 1, 1) := by decide +kernel
theorem dX5_nextPayment_2 : decode cX5_nextPayment 2 = .ok (.if_icmp .lt 19, 3) := by decide +kernel
theorem dX5_nextPayment_5 : decode cX5_nextPayment 5 = .ok (.iload_n 1, 1) := by decide +kernel
theorem dX5_nextPayment_6 : decode cX5_nextPayment 6 = .ok (.sipush 200, 3) := by decide +kernel
theorem dX5_nextPayment_9 : decode cX5_nextPayment 9 = .ok (.if_icmp .gt 12, 3) := by decide +kernel
theorem dX5_nextPayment_12 : decode cX5_nextPayment 12 = .ok (.aload_n 0, 1) := by decide +kernel
theorem dX5_nextPayment_13 : decode cX5_nextPayment 13 = .ok (.getfield 21, 3) := by decide +kernel
theorem dX5_nextPayment_16 : decode cX5_nextPayment 16 = .ok (.iload_n 1, 1) := by decide +kernel
theorem dX5_nextPayment_17 : decode cX5_nextPayment 17 = .ok (.iaload, 1) := by decide +kernel
theorem dX5_nextPayment_18 : decode cX5_nextPayment 18 = .ok (.goto 4, 3) := by decide +kernel
theorem dX5_nextPayment_21 : decode cX5_nextPayment 21 = .ok (.iconst 0, 1) := by decide +kernel
theorem dX5_nextPayment_22 : decode cX5_nextPayment 22 = .ok (.ireturn, 1) := by decide +kernel
theorem zy_X5_nextPayment : zYv yX5_nextPayment cX5_nextPayment 2 (some .int) 1 := ⟨zw_1053, zw_1054, zw_10, zw_1055, by decide, by decide, by decide⟩
theorem c_X5_nextPayment_0 {C : zC} {I : Nat → Nat → Int32} {J : Nat → Nat → Int64} {Rr : Nat → Nat → Option Nat} {D : zD} (kk : Nat) (hkk : kk = 48 ∨ kk = 53) (a1 : Int32) (v_nextPayments : (Nat → Int32)) (e_v_nextPayments : I (kk + 4) = v_nextPayments) (rr : Int32) (E : zE C RX5 cX5_nextPayment 2 (some .int) ({ frames := 0, cells := 0, slots := 0, locals := 0 } : Room)) (hQ : C.Q = zQi C ({ frames := 0, cells := 0, slots := 0, locals := 0 } : Room) rr (I, J, Rr, D)) (h : pKnown_nextPayment a1 v_nextPayments = some rr) : zB C (0, 0) 0 [(0, .ref (C.X.1 + kk)), (1, .int a1)] [] (I, J, Rr, D) := by
  refine zb_iload_n E dX5_nextPayment_0 1 rfl rfl ?_
  refine zb_iconst E dX5_nextPayment_1 (v := 1) rfl ?_
  refine zb_icmp_lt E dX5_nextPayment_2 (tgt := 21) rfl (fun hc => ?_) (fun hc => ?_)
  · have h := if_t h hc
    refine zb_iconst E dX5_nextPayment_21 (v := 0) rfl ?_
    obtain rfl := zinj1 h
    exact zb_iret E hQ rfl ⟨Nat.zero_le _, Nat.zero_le _⟩ dX5_nextPayment_22
  · have h := if_f h hc
    refine zb_iload_n E dX5_nextPayment_5 1 rfl rfl ?_
    refine zb_sipush E dX5_nextPayment_6 (v := 200) rfl ?_
    refine zb_icmp_gt E dX5_nextPayment_9 (tgt := 21) rfl (fun hc => ?_) (fun hc => ?_)
    · have h := if_t h hc
      refine zb_iconst E dX5_nextPayment_21 (v := 0) rfl ?_
      obtain rfl := zinj1 h
      exact zb_iret E hQ rfl ⟨Nat.zero_le _, Nat.zero_le _⟩ dX5_nextPayment_22
    · have h := if_f h hc
      refine zb_aload_n E dX5_nextPayment_12 0 rfl rfl ?_
      refine zb_getX E kk (by omega) (zFk C.X hkk) rfl zin5 4 (by decide) zw_259 rfl rfl (v := .ref (C.X.1 + (kk + 4))) rfl dX5_nextPayment_13 ?_
      refine zb_iload_n E dX5_nextPayment_16 1 rfl rfl ?_
      obtain ⟨g1, h⟩ := gd_s h
      refine zb_iald E (kk + 4) (by omega) (zFkA_4 hkk) (f := v_nextPayments) e_v_nextPayments (ib_in g1) dX5_nextPayment_17 ?_
      refine zb_goto E dX5_nextPayment_18 (tgt := 22) rfl ?_
      obtain rfl := zinj1 h
      exact zb_iret E hQ rfl ⟨Nat.zero_le _, Nat.zero_le _⟩ dX5_nextPayment_22
theorem c_X5_nextPayment {l : Launch} {X : zX} {I : Nat → Nat → Int32} {J : Nat → Nat → Int64} {Rr : Nat → Nat → Option Nat} {D : zD} (kk : Nat) (hkk : kk = 48 ∨ kk = 53) {a1 : Int32} (v_nextPayments : (Nat → Int32)) (e_v_nextPayments : I (kk + 4) = v_nextPayments) {rr : Int32} (h : pKnown_nextPayment a1 v_nextPayments = some rr) : zMi l yX5_nextPayment cX5_nextPayment 2 (some .int) ({ frames := 0, cells := 0, slots := 0, locals := 0 } : Room) X [.ref (X.1 + kk), .int a1] (I, J, Rr, D) rr (I, J, Rr, D) := by
  refine zMi.of (by decide) (Nat.le_of_ble_eq_true rfl) (fun C E hl hX hQ => ?_)
  subst hl
  subst hX
  have eI0 : I = I := rfl
  have eJ0 : J = J := rfl
  refine zb_S (S2 := (I, J, Rr, D)) (zS_eq eI0.symm eJ0.symm) ?_
  exact c_X5_nextPayment_0 kk hkk a1 v_nextPayments e_v_nextPayments rr E hQ h
-- ChequeredCloth$Known.dropFirstPayment
theorem dX5_dropFirstPayment_0 : decode cX5_dropFirstPayment 0 = .ok (.iload_n 1, 1) := by decide +kernel
theorem dX5_dropFirstPayment_1 : decode cX5_dropFirstPayment 1 = .ok (.invokestatic 57, 3) := by decide +kernel
theorem dX5_dropFirstPayment_4 : decode cX5_dropFirstPayment 4 = .ok (.ifCond .eq 19, 3) := by decide +kernel
theorem dX5_dropFirstPayment_7 : decode cX5_dropFirstPayment 7 = .ok (.aload_n 0, 1) := by decide +kernel
theorem dX5_dropFirstPayment_8 : decode cX5_dropFirstPayment 8 = .ok (.getfield 18, 3) := by decide +kernel
theorem dX5_dropFirstPayment_11 : decode cX5_dropFirstPayment 11 = .ok (.iload_n 1, 1) := by decide +kernel
theorem dX5_dropFirstPayment_12 : decode cX5_dropFirstPayment 12 = .ok (.aload_n 0, 1) := by decide +kernel
theorem dX5_dropFirstPayment_13 : decode cX5_dropFirstPayment 13 = .ok (.aload_n 0, 1) := by decide +kernel
theorem dX5_dropFirstPayment_14 : decode cX5_dropFirstPayment 14 = .ok (.getfield 18, 3) := by decide +kernel
theorem dX5_dropFirstPayment_17 : decode cX5_dropFirstPayment 17 = .ok (.iload_n 1, 1) := by decide +kernel
theorem dX5_dropFirstPayment_18 : decode cX5_dropFirstPayment 18 = .ok (.iaload, 1) := by decide +kernel
theorem dX5_dropFirstPayment_19 : decode cX5_dropFirstPayment 19 = .ok (.invokevirtual 70, 3) := by decide +kernel
theorem dX5_dropFirstPayment_22 : decode cX5_dropFirstPayment 22 = .ok (.iastore, 1) := by decide +kernel
theorem dX5_dropFirstPayment_23 : decode cX5_dropFirstPayment 23 = .ok (.return_, 1) := by decide +kernel
theorem zy_X5_dropFirstPayment : zYv yX5_dropFirstPayment cX5_dropFirstPayment 2 none 1 := ⟨zw_1128, zw_1129, zw_10, zw_1130, by decide, by decide, by decide⟩
theorem c_X5_dropFirstPayment_0 {C : zC} {I : Nat → Nat → Int32} {J : Nat → Nat → Int64} {Rr : Nat → Nat → Option Nat} {D : zD} (kk : Nat) (hkk : kk = 48 ∨ kk = 53) (a1 : Int32) (v_nextPayments : (Nat → Int32)) (e_v_nextPayments : I (kk + 4) = v_nextPayments) (y_v_firstPayments : (Nat → Int32)) (E : zE C RX5 cX5_dropFirstPayment 2 none ({ frames := 1, cells := 0, slots := 0, locals := 21 } : Room)) (hQ : C.Q = zQv C ({ frames := 1, cells := 0, slots := 0, locals := 21 } : Room) ((va_up I (kk + 3) y_v_firstPayments), J, Rr, D)) (v_firstPayments : (Nat → Int32)) (h : pKnown_dropFirstPayment a1 v_firstPayments v_nextPayments = some y_v_firstPayments) : zB C (0, 0) 0 [(0, .ref (C.X.1 + kk)), (1, .int a1)] [] ((va_up I (kk + 3) v_firstPayments), J, Rr, D) := by
  refine zb_iload_n E dX5_dropFirstPayment_0 1 rfl rfl ?_
  obtain ⟨rc1, hc_1, h⟩ := bd1_s h
  refine zb_cSNi E [.int a1] zy_X11_isTerm znw_35 (c_X11_isTerm hc_1) (by decide) rfl rfl (by first | decide | simp [Value.category]) dX5_dropFirstPayment_1 (cs2 := (0, 0)) rfl ?_
  refine zb_if_eq E dX5_dropFirstPayment_4 (tgt := 23) rfl (fun hc => ?_) (fun hc => ?_)
  · have h := if_t h hc
    obtain rfl := zinj1 h
    exact zb_vret E hQ rfl ⟨Nat.zero_le _, Nat.zero_le _⟩ dX5_dropFirstPayment_23
  · have h := if_f h hc
    refine zb_aload_n E dX5_dropFirstPayment_7 0 rfl rfl ?_
    refine zb_getX E kk (by omega) (zFk C.X hkk) rfl zin5 3 (by decide) zw_258 (zup_n (by omega : (kk : Nat) ≠ (kk + 3))) rfl (v := .ref (C.X.1 + (kk + 3))) rfl dX5_dropFirstPayment_8 ?_
    refine zb_iload_n E dX5_dropFirstPayment_11 1 rfl rfl ?_
    refine zb_aload_n E dX5_dropFirstPayment_12 0 rfl rfl ?_
    refine zb_aload_n E dX5_dropFirstPayment_13 0 rfl rfl ?_
    refine zb_getX E kk (by omega) (zFk C.X hkk) rfl zin5 3 (by decide) zw_258 (zup_n (by omega : (kk : Nat) ≠ (kk + 3))) rfl (v := .ref (C.X.1 + (kk + 3))) rfl dX5_dropFirstPayment_14 ?_
    refine zb_iload_n E dX5_dropFirstPayment_17 1 rfl rfl ?_
    obtain ⟨g2, h⟩ := gd_s h
    refine zb_iald E (kk + 3) (by omega) (zFkA_3 hkk) (f := v_firstPayments) (zup_s) (ib_in g2) dX5_dropFirstPayment_18 ?_
    obtain ⟨rc3, hc_19, h⟩ := bd1_s h
    refine zb_cVi E [.int (v_firstPayments (ix a1))] kk zy_X5_nextPayment zw_1131 (by omega) (zFk _ hkk _ _ _) rfl (c_X5_nextPayment kk hkk v_nextPayments ((zup_n (by omega : ((kk + 4) : Nat) ≠ (kk + 3))).trans e_v_nextPayments) hc_19) (by decide) rfl rfl (by first | decide | simp [Value.category]) dX5_dropFirstPayment_19 (cs2 := (0, 0)) rfl ?_
    refine zb_iast E (kk + 3) (by omega) (zFkA_3 hkk) (f := v_firstPayments) (zup_s) (ib_in g2) dX5_dropFirstPayment_22 (I2 := (va_up I (kk + 3) (upd v_firstPayments (ix a1) rc3))) zn1 ?_
    obtain rfl := zinj1 h
    exact zb_vret E hQ rfl ⟨Nat.zero_le _, Nat.zero_le _⟩ dX5_dropFirstPayment_23
theorem c_X5_dropFirstPayment {l : Launch} {X : zX} {I : Nat → Nat → Int32} {J : Nat → Nat → Int64} {Rr : Nat → Nat → Option Nat} {D : zD} (kk : Nat) (hkk : kk = 48 ∨ kk = 53) {a1 : Int32} (v_nextPayments : (Nat → Int32)) (e_v_nextPayments : I (kk + 4) = v_nextPayments) (v_firstPayments : (Nat → Int32)) (e_v_firstPayments : I (kk + 3) = v_firstPayments) {y_v_firstPayments : (Nat → Int32)} (h : pKnown_dropFirstPayment a1 v_firstPayments v_nextPayments = some y_v_firstPayments) : zMv l yX5_dropFirstPayment cX5_dropFirstPayment 2 none ({ frames := 1, cells := 0, slots := 0, locals := 21 } : Room) X [.ref (X.1 + kk), .int a1] (I, J, Rr, D) ((va_up I (kk + 3) y_v_firstPayments), J, Rr, D) := by
  refine zMv.of (by decide) (Nat.le_of_ble_eq_true rfl) (fun C E hl hX hQ => ?_)
  subst hl
  subst hX
  have eI0 : (va_up I (kk + 3) v_firstPayments) = I := by rw [zup_idE e_v_firstPayments]
  have eJ0 : J = J := rfl
  refine zb_S (S2 := ((va_up I (kk + 3) v_firstPayments), J, Rr, D)) (zS_eq eI0.symm eJ0.symm) ?_
  exact c_X5_dropFirstPayment_0 kk hkk a1 v_nextPayments e_v_nextPayments y_v_firstPayments E hQ v_firstPayments h
