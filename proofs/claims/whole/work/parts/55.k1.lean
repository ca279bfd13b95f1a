set_option maxHeartbeats 4000000
set_option maxRecDepth 100000
theorem jlitI_m1 : (-1 : Int32).toInt = -1 := by decide
theorem jlitJ_m1 : (-1 : Int64).toInt = -1 := by decide
theorem jlitI_m10 : (-10 : Int32).toInt = -10 := by decide
theorem jlitJ_m1000000000 : (-1000000000 : Int64).toInt = -1000000000 := by decide
theorem jlitI_m11 : (-11 : Int32).toInt = -11 := by decide
theorem jlitI_m12 : (-12 : Int32).toInt = -12 := by decide
theorem jlitI_m13 : (-13 : Int32).toInt = -13 := by decide
theorem jlitI_m14 : (-14 : Int32).toInt = -14 := by decide
theorem jlitI_m15 : (-15 : Int32).toInt = -15 := by decide
theorem jlitI_m16 : (-16 : Int32).toInt = -16 := by decide
theorem jlitI_m17 : (-17 : Int32).toInt = -17 := by decide
theorem jlitI_m2 : (-2 : Int32).toInt = -2 := by decide
theorem jlitJ_m2000000000000 : (-2000000000000 : Int64).toInt = -2000000000000 := by decide
theorem jlitI_m3 : (-3 : Int32).toInt = -3 := by decide
theorem jlitI_m300 : (-300 : Int32).toInt = -300 := by decide
theorem jlitI_m4 : (-4 : Int32).toInt = -4 := by decide
theorem jlitI_m5 : (-5 : Int32).toInt = -5 := by decide
theorem jlitI_m6 : (-6 : Int32).toInt = -6 := by decide
theorem jlitI_m7 : (-7 : Int32).toInt = -7 := by decide
theorem jlitI_m8 : (-8 : Int32).toInt = -8 := by decide
theorem jlitI_m9 : (-9 : Int32).toInt = -9 := by decide
theorem jlitI_0 : (0 : Int32).toInt = 0 := by decide
theorem jlitJ_0 : (0 : Int64).toInt = 0 := by decide
theorem jlitI_1 : (1 : Int32).toInt = 1 := by decide
theorem jlitJ_1 : (1 : Int64).toInt = 1 := by decide
theorem jlitI_10 : (10 : Int32).toInt = 10 := by decide
theorem jlitI_100 : (100 : Int32).toInt = 100 := by decide
theorem jlitJ_100 : (100 : Int64).toInt = 100 := by decide
theorem jlitI_1000 : (1000 : Int32).toInt = 1000 := by decide
theorem jlitI_100000 : (100000 : Int32).toInt = 100000 := by decide
theorem jlitI_1000000 : (1000000 : Int32).toInt = 1000000 := by decide
theorem jlitJ_1000000 : (1000000 : Int64).toInt = 1000000 := by decide
theorem jlitI_100000000 : (100000000 : Int32).toInt = 100000000 := by decide
theorem jlitI_1000000000 : (1000000000 : Int32).toInt = 1000000000 := by decide
theorem jlitJ_1000000000 : (1000000000 : Int64).toInt = 1000000000 := by decide
theorem jlitI_1024 : (1024 : Int32).toInt = 1024 := by decide
theorem jlitI_10240 : (10240 : Int32).toInt = 10240 := by decide
theorem jlitI_11 : (11 : Int32).toInt = 11 := by decide
theorem jlitJ_11 : (11 : Int64).toInt = 11 := by decide
theorem jlitJ_1152921504606846976 : (1152921504606846976 : Int64).toInt = 1152921504606846976 := by decide
theorem jlitI_12 : (12 : Int32).toInt = 12 := by decide
theorem jlitJ_12 : (12 : Int64).toInt = 12 := by decide
theorem jlitI_120 : (120 : Int32).toInt = 120 := by decide
theorem jlitJ_120 : (120 : Int64).toInt = 120 := by decide
theorem jlitI_122 : (122 : Int32).toInt = 122 := by decide
theorem jlitJ_129738997854202 : (129738997854202 : Int64).toInt = 129738997854202 := by decide
theorem jlitI_13 : (13 : Int32).toInt = 13 := by decide
theorem jlitI_14 : (14 : Int32).toInt = 14 := by decide
theorem jlitI_15 : (15 : Int32).toInt = 15 := by decide
theorem jlitI_16 : (16 : Int32).toInt = 16 := by decide
theorem jlitI_17 : (17 : Int32).toInt = 17 := by decide
theorem jlitI_18 : (18 : Int32).toInt = 18 := by decide
theorem jlitI_19 : (19 : Int32).toInt = 19 := by decide
theorem jlitI_2 : (2 : Int32).toInt = 2 := by decide
theorem jlitI_20 : (20 : Int32).toInt = 20 := by decide
theorem jlitJ_20 : (20 : Int64).toInt = 20 := by decide
theorem jlitI_200 : (200 : Int32).toInt = 200 := by decide
theorem jlitI_21 : (21 : Int32).toInt = 21 := by decide
theorem jlitI_22 : (22 : Int32).toInt = 22 := by decide
theorem jlitI_23 : (23 : Int32).toInt = 23 := by decide
theorem jlitI_24 : (24 : Int32).toInt = 24 := by decide
theorem jlitI_240 : (240 : Int32).toInt = 240 := by decide
theorem jlitJ_240 : (240 : Int64).toInt = 240 := by decide
theorem jlitI_25 : (25 : Int32).toInt = 25 := by decide
theorem jlitI_255 : (255 : Int32).toInt = 255 := by decide
theorem jlitJ_25937424601 : (25937424601 : Int64).toInt = 25937424601 := by decide
theorem jlitI_3 : (3 : Int32).toInt = 3 := by decide
theorem jlitI_300 : (300 : Int32).toInt = 300 := by decide
theorem jlitI_32 : (32 : Int32).toInt = 32 := by decide
theorem jlitJ_39 : (39 : Int64).toInt = 39 := by decide
theorem jlitI_4 : (4 : Int32).toInt = 4 := by decide
theorem jlitI_40 : (40 : Int32).toInt = 40 := by decide
theorem jlitI_41 : (41 : Int32).toInt = 41 := by decide
theorem jlitI_42 : (42 : Int32).toInt = 42 := by decide
theorem jlitI_43 : (43 : Int32).toInt = 43 := by decide
theorem jlitI_44 : (44 : Int32).toInt = 44 := by decide
theorem jlitI_45 : (45 : Int32).toInt = 45 := by decide
theorem jlitI_47 : (47 : Int32).toInt = 47 := by decide
theorem jlitI_48 : (48 : Int32).toInt = 48 := by decide
theorem jlitI_5 : (5 : Int32).toInt = 5 := by decide
theorem jlitJ_5 : (5 : Int64).toInt = 5 := by decide
theorem jlitI_500 : (500 : Int32).toInt = 500 := by decide
theorem jlitJ_500 : (500 : Int64).toInt = 500 := by decide
theorem jlitI_57 : (57 : Int32).toInt = 57 := by decide
theorem jlitI_59 : (59 : Int32).toInt = 59 := by decide
theorem jlitI_6 : (6 : Int32).toInt = 6 := by decide
theorem jlitJ_6 : (6 : Int64).toInt = 6 := by decide
theorem jlitI_60 : (60 : Int32).toInt = 60 := by decide
theorem jlitI_600 : (600 : Int32).toInt = 600 := by decide
theorem jlitI_61 : (61 : Int32).toInt = 61 := by decide
theorem jlitI_62 : (62 : Int32).toInt = 62 := by decide
theorem jlitI_64 : (64 : Int32).toInt = 64 := by decide
theorem jlitI_640 : (640 : Int32).toInt = 640 := by decide
theorem jlitI_7 : (7 : Int32).toInt = 7 := by decide
theorem jlitJ_7 : (7 : Int64).toInt = 7 := by decide
theorem jlitI_8 : (8 : Int32).toInt = 8 := by decide
theorem jlitI_9 : (9 : Int32).toInt = 9 := by decide
theorem jlitJ_9 : (9 : Int64).toInt = 9 := by decide
theorem jlitI_91 : (91 : Int32).toInt = 91 := by decide
theorem jlitI_93 : (93 : Int32).toInt = 93 := by decide
theorem jlitI_97 : (97 : Int32).toInt = 97 := by decide
theorem jlitI_99 : (99 : Int32).toInt = 99 := by decide
theorem jlitJ_99 : (99 : Int64).toInt = 99 := by decide
theorem jlitI_999 : (999 : Int32).toInt = 999 := by decide
theorem jlitI_99999 : (99999 : Int32).toInt = 99999 := by decide
theorem t_pJMath_floorDiv {a0 : Int32} {a0_j : Int} (t_a0 : mI a0 = a0_j) {a1 : Int32} {a1_j : Int} (t_a1 : mI a1 = a1_j) : tl (mI) (iJMath_floorDiv a0_j a1_j) (pJMath_floorDiv a0 a1) := by
  subst t_a0
  subst t_a1
  unfold iJMath_floorDiv pJMath_floorDiv
  refine tl_gd (jg_n (Eq.refl (mI a1))) (fun _ => ?_)
  refine tl_ite (jc_le jlitI_0 (ja_xor (Eq.refl (mI a0)) (Eq.refl (mI a1)))) ?_ ?_
  · refine tl_g (fun h1 => ?_)
    exact (tl_some (ja_div (Eq.refl (mI a0)) (Eq.refl (mI a1)) h1))
  · refine tl_g (fun h2 => ?_)
    refine tl_g (fun h3 => ?_)
    refine tl_ite (jc_eq (ja_mul (ja_div (Eq.refl (mI a0)) (Eq.refl (mI a1)) h2) (Eq.refl (mI a1)) h3) (Eq.refl (mI a0))) ?_ ?_
    · exact (tl_some (ja_div (Eq.refl (mI a0)) (Eq.refl (mI a1)) h2))
    · refine tl_g (fun h4 => ?_)
      exact (tl_some (ja_sub (ja_div (Eq.refl (mI a0)) (Eq.refl (mI a1)) h2) jlitI_1 h4))
theorem t_pK_isStick {a0 : Int32} {a0_j : Int} (t_a0 : mI a0 = a0_j) : tl (mI) (iK_isStick a0_j) (pK_isStick a0) := by
  subst t_a0
  unfold iK_isStick pK_isStick
  refine tl_ite (jc_lt (Eq.refl (mI a0)) jlitI_0) ?_ ?_
  · exact (tl_some jlitI_0)
  · refine tl_ite (jc_le jlitI_10 (Eq.refl (mI a0))) ?_ ?_
    · exact (tl_some jlitI_0)
    · exact (tl_some jlitI_1)
theorem t_pK_half {a0 : Int32} {a0_j : Int} (t_a0 : mI a0 = a0_j) {a1 : Int32} {a1_j : Int} (t_a1 : mI a1 = a1_j) : tl (mI) (iK_half a0_j a1_j) (pK_half a0 a1) := by
  subst t_a0
  subst t_a1
  unfold iK_half pK_half
  refine tl_ite (jc_eq (Eq.refl (mI a0)) jlitI_0) ?_ ?_
  · exact (tl_some (Eq.refl (mI a1)))
  · refine tl_g (fun h1 => ?_)
    exact (tl_some (ja_add jlitI_10 (Eq.refl (mI a1)) h1))
theorem t_pK_isTerm {a0 : Int32} {a0_j : Int} (t_a0 : mI a0 = a0_j) : tl (mI) (iK_isTerm a0_j) (pK_isTerm a0) := by
  subst t_a0
  unfold iK_isTerm pK_isTerm
  refine tl_ite (jc_lt (Eq.refl (mI a0)) jlitI_0) ?_ ?_
  · exact (tl_some jlitI_0)
  · refine tl_ite (jc_le jlitI_40 (Eq.refl (mI a0))) ?_ ?_
    · exact (tl_some jlitI_0)
    · exact (tl_some jlitI_1)
theorem t_pK_isShire {a0 : Int32} {a0_j : Int} (t_a0 : mI a0 = a0_j) : tl (mI) (iK_isShire a0_j) (pK_isShire a0) := by
  subst t_a0
  unfold iK_isShire pK_isShire
  refine tl_ite (jc_lt (Eq.refl (mI a0)) jlitI_0) ?_ ?_
  · exact (tl_some jlitI_0)
  · refine tl_ite (jc_le jlitI_8 (Eq.refl (mI a0))) ?_ ?_
    · exact (tl_some jlitI_0)
    · exact (tl_some jlitI_1)
theorem t_pJMath_floorDivL {a0 : Int64} {a0_j : Int} (t_a0 : mJ a0 = a0_j) {a2 : Int64} {a2_j : Int} (t_a2 : mJ a2 = a2_j) : tl (mJ) (iJMath_floorDivL a0_j a2_j) (pJMath_floorDivL a0 a2) := by
  subst t_a0
  subst t_a2
  unfold iJMath_floorDivL pJMath_floorDivL
  refine tl_gd (jg_nL (Eq.refl (mJ a2))) (fun _ => ?_)
  refine tl_ite (jk_ge (jL_xor (Eq.refl (mJ a0)) (Eq.refl (mJ a2))) jlitJ_0) ?_ ?_
  · refine tl_g (fun h1 => ?_)
    exact (tl_some (jL_div (Eq.refl (mJ a0)) (Eq.refl (mJ a2)) h1))
  · refine tl_g (fun h2 => ?_)
    refine tl_g (fun h3 => ?_)
    refine tl_ite (jk_eq (jL_mul (jL_div (Eq.refl (mJ a0)) (Eq.refl (mJ a2)) h2) (Eq.refl (mJ a2)) h3) (Eq.refl (mJ a0))) ?_ ?_
    · exact (tl_some (jL_div (Eq.refl (mJ a0)) (Eq.refl (mJ a2)) h2))
    · refine tl_g (fun h4 => ?_)
      exact (tl_some (jL_sub (jL_div (Eq.refl (mJ a0)) (Eq.refl (mJ a2)) h2) jlitJ_1 h4))
theorem t_pCounters_isPlace {a0 : Int32} {a0_j : Int} (t_a0 : mI a0 = a0_j) : tl (mI) (iCounters_isPlace a0_j) (pCounters_isPlace a0) := by
  subst t_a0
  unfold iCounters_isPlace pCounters_isPlace
  refine tl_ite (jc_lt (Eq.refl (mI a0)) jlitI_0) ?_ ?_
  · exact (tl_some jlitI_0)
  · refine tl_ite (jc_le jlitI_13 (Eq.refl (mI a0))) ?_ ?_
    · exact (tl_some jlitI_0)
    · exact (tl_some jlitI_1)
theorem t_pCounters_set {a1 : Int32} {a1_j : Int} (t_a1 : mI a1 = a1_j) {a2 : Int32} {a2_j : Int} (t_a2 : mI a2 = a2_j) {v_lying : (Nat → Int32)} {v_lying_j : (Nat → Int)} (t_v_lying : mA v_lying = v_lying_j) : tl (mP mI mA) (iCounters_set a1_j a2_j v_lying_j) (pCounters_set a1 a2 v_lying) := by
  subst t_a1
  subst t_a2
  subst t_v_lying
  unfold iCounters_set pCounters_set
  refine tl_bd1 (t_pCounters_isPlace (Eq.refl (mI a1))) (fun rc1 => ?_)
  refine tl_ite (jc_eq (Eq.refl (mI rc1)) jlitI_0) ?_ ?_
  · exact (tl_some (jp2 jlitI_0 (Eq.refl (mA v_lying))))
  · refine tl_ite (jc_lt (Eq.refl (mI a2)) jlitI_0) ?_ ?_
    · exact (tl_some (jp2 jlitI_0 (Eq.refl (mA v_lying))))
    · refine tl_ite (jc_le (Eq.refl (mI a2)) jlitI_99) ?_ ?_
      · refine tl_gd (jg_ib (Eq.refl (mI a1))) (fun _ => ?_)
        exact (tl_some (jp2 jlitI_1 (jupA (Eq.refl (mA v_lying)) (jx (Eq.refl (mI a1))) (Eq.refl (mI a2)))))
      · exact (tl_some (jp2 jlitI_0 (Eq.refl (mA v_lying))))
theorem t_pCounters_countAt {a1 : Int32} {a1_j : Int} (t_a1 : mI a1 = a1_j) {v_lying : (Nat → Int32)} {v_lying_j : (Nat → Int)} (t_v_lying : mA v_lying = v_lying_j) : tl (mI) (iCounters_countAt a1_j v_lying_j) (pCounters_countAt a1 v_lying) := by
  subst t_a1
  subst t_v_lying
  unfold iCounters_countAt pCounters_countAt
  refine tl_bd1 (t_pCounters_isPlace (Eq.refl (mI a1))) (fun rc1 => ?_)
  refine tl_ite (jc_eq (Eq.refl (mI rc1)) jlitI_0) ?_ ?_
  · exact (tl_some jlitI_m1)
  · refine tl_gd (jg_ib (Eq.refl (mI a1))) (fun _ => ?_)
    exact (tl_some (jrd (Eq.refl (mA v_lying)) (jx (Eq.refl (mI a1)))))
theorem t_pCounters_total_b4_F {N N_j : Nat} (t_N : N = N_j) {v_lying : (Nat → Int32)} {v_lying_j : (Nat → Int)} (t_v_lying : mA v_lying = v_lying_j) {self : Int64 → Int32 → Option R_pCounters_total} {self_j : Int → Int → Option Int} (t_self : ∀ (q0_ : Int64) (q1_ : Int32), tl (mJ) (self_j (mJ q0_) (mI q1_)) (self q0_ q1_)) {x1 : Int64} {x1_j : Int} (t_x1 : mJ x1 = x1_j) {x3 : Int32} {x3_j : Int} (t_x3 : mI x3 = x3_j) : tl (mJ) (iCounters_total_b4_F N_j v_lying_j self_j x1_j x3_j) (pCounters_total_b4_F N v_lying self x1 x3) := by
  subst t_N
  subst t_v_lying
  subst t_x1
  subst t_x3
  unfold iCounters_total_b4_F pCounters_total_b4_F
  refine tl_ite (jc_le jlitI_13 (Eq.refl (mI x3))) ?_ ?_
  · exact (tl_some (Eq.refl (mJ x1)))
  · refine tl_gd (jg_ib (Eq.refl (mI x3))) (fun _ => ?_)
    refine tl_g (fun h1 => ?_)
    refine tl_g (fun h2 => ?_)
    refine tl_g (fun h3 => ?_)
    exact (tl_e2 (jL_add (Eq.refl (mJ x1)) (jL_mul (ja_i2l (jrd (Eq.refl (mA v_lying)) (jx (Eq.refl (mI x3))))) (ja_i2l (jtab0 (jx (Eq.refl (mI x3))))) h1) h2) (ja_add (Eq.refl (mI x3)) jlitI_1 h3) (t_self _ _))
theorem t_pCounters_total_b4 {N N_j : Nat} (t_N : N = N_j) {v_lying : (Nat → Int32)} {v_lying_j : (Nat → Int)} (t_v_lying : mA v_lying = v_lying_j) {n n_j : Nat} (t_n : n = n_j) {w0_ : Int64} {w0__j : Int} (t_w0_ : mJ w0_ = w0__j) {w1_ : Int32} {w1__j : Int} (t_w1_ : mI w1_ = w1__j) : tl (mJ) (iCounters_total_b4 N_j v_lying_j n_j w0__j w1__j) (pCounters_total_b4 N v_lying n w0_ w1_) := by
  subst t_N
  subst t_v_lying
  subst t_n
  subst t_w0_
  subst t_w1_
  exact tl_zlp2 (fun s2 s hs w0_ w1_ => t_pCounters_total_b4_F (Eq.refl N) (Eq.refl (mA v_lying)) hs (Eq.refl (mJ w0_)) (Eq.refl (mI w1_))) n w0_ w1_
theorem t_pCounters_total {N N_j : Nat} (t_N : N = N_j) {v_lying : (Nat → Int32)} {v_lying_j : (Nat → Int)} (t_v_lying : mA v_lying = v_lying_j) : tl (mJ) (iCounters_total N_j v_lying_j) (pCounters_total N v_lying) := by
  subst t_N
  subst t_v_lying
  unfold iCounters_total pCounters_total
  exact (t_pCounters_total_b4 (Eq.refl N) (Eq.refl (mA v_lying)) (Eq.refl N) jlitJ_0 jlitI_0)
theorem t_pCounters_tellPlain_b17_F {N N_j : Nat} (t_N : N = N_j) {a1 : Int32} {a1_j : Int} (t_a1 : mI a1 = a1_j) {self : Int32 → Int32 → (Nat → Int32) → Option R_pCounters_tellPlain} {self_j : Int → Int → (Nat → Int) → Option R_iCounters_tellPlain} (t_self : ∀ (q0_ : Int32) (q1_ : Int32) (q2_ : (Nat → Int32)), tl (mP mI mA) (self_j (mI q0_) (mI q1_) (mA q2_)) (self q0_ q1_ q2_)) {x2 : Int32} {x2_j : Int} (t_x2 : mI x2 = x2_j) {x3 : Int32} {x3_j : Int} (t_x3 : mI x3 = x3_j) {v_due : (Nat → Int32)} {v_due_j : (Nat → Int)} (t_v_due : mA v_due = v_due_j) : tl (mP mI mA) (iCounters_tellPlain_b17_F N_j a1_j self_j x2_j x3_j v_due_j) (pCounters_tellPlain_b17_F N a1 self x2 x3 v_due) := by
  subst t_N
  subst t_a1
  subst t_x2
  subst t_x3
  subst t_v_due
  unfold iCounters_tellPlain_b17_F pCounters_tellPlain_b17_F
  refine tl_ite (jc_lt (Eq.refl (mI x3)) jlitI_0) ?_ ?_
  · exact (tl_some (jp2 jlitI_1 (Eq.refl (mA v_due))))
  · refine tl_gd (jg_ib (Eq.refl (mI x3))) (fun _ => ?_)
    refine tl_gd (jg_n (jtab0 (jx (Eq.refl (mI x3))))) (fun _ => ?_)
    refine tl_g (fun h1 => ?_)
    refine tl_ite (jc_le (jrd (jupA (Eq.refl (mA v_due)) (jx (Eq.refl (mI x3))) (ja_div (Eq.refl (mI x2)) (jtab0 (jx (Eq.refl (mI x3)))) h1)) (jx (Eq.refl (mI x3)))) jlitI_99) ?_ ?_
    · refine tl_g (fun h2 => ?_)
      exact (tl_e3 (ja_rem (Eq.refl (mI x2)) (jtab0 (jx (Eq.refl (mI x3))))) (ja_add (Eq.refl (mI x3)) jlitI_m1 h2) (jupA (Eq.refl (mA v_due)) (jx (Eq.refl (mI x3))) (ja_div (Eq.refl (mI x2)) (jtab0 (jx (Eq.refl (mI x3)))) h1)) (t_self _ _ _))
    · exact (tl_some (jp2 jlitI_0 (jupA (Eq.refl (mA v_due)) (jx (Eq.refl (mI x3))) (ja_div (Eq.refl (mI x2)) (jtab0 (jx (Eq.refl (mI x3)))) h1))))
theorem t_pCounters_tellPlain_b17 {N N_j : Nat} (t_N : N = N_j) {a1 : Int32} {a1_j : Int} (t_a1 : mI a1 = a1_j) {n n_j : Nat} (t_n : n = n_j) {w0_ : Int32} {w0__j : Int} (t_w0_ : mI w0_ = w0__j) {w1_ : Int32} {w1__j : Int} (t_w1_ : mI w1_ = w1__j) {w2_ : (Nat → Int32)} {w2__j : (Nat → Int)} (t_w2_ : mA w2_ = w2__j) : tl (mP mI mA) (iCounters_tellPlain_b17 N_j a1_j n_j w0__j w1__j w2__j) (pCounters_tellPlain_b17 N a1 n w0_ w1_ w2_) := by
  subst t_N
  subst t_a1
  subst t_n
  subst t_w0_
  subst t_w1_
  subst t_w2_
  exact tl_zlp3 (fun s2 s hs w0_ w1_ w2_ => t_pCounters_tellPlain_b17_F (Eq.refl N) (Eq.refl (mI a1)) hs (Eq.refl (mI w0_)) (Eq.refl (mI w1_)) (Eq.refl (mA w2_))) n w0_ w1_ w2_
theorem t_pCounters_tellPlain {N N_j : Nat} (t_N : N = N_j) {a1 : Int32} {a1_j : Int} (t_a1 : mI a1 = a1_j) {v_due : (Nat → Int32)} {v_due_j : (Nat → Int)} (t_v_due : mA v_due = v_due_j) : tl (mP mI mA) (iCounters_tellPlain N_j a1_j v_due_j) (pCounters_tellPlain N a1 v_due) := by
  subst t_N
  subst t_a1
  subst t_v_due
  unfold iCounters_tellPlain pCounters_tellPlain
  refine tl_ite (jc_lt (Eq.refl (mI a1)) jlitI_0) ?_ ?_
  · exact (tl_some (jp2 jlitI_0 (Eq.refl (mA v_due))))
  · refine tl_ite (jc_le (Eq.refl (mI a1)) jlitI_1000000000) ?_ ?_
    · exact (t_pCounters_tellPlain_b17 (Eq.refl N) (Eq.refl (mI a1)) (Eq.refl N) (Eq.refl (mI a1)) jlitI_12 (Eq.refl (mA v_due)))
    · exact (tl_some (jp2 jlitI_0 (Eq.refl (mA v_due))))
theorem t_pCounters_plainAt {N N_j : Nat} (t_N : N = N_j) {a1 : Int32} {a1_j : Int} (t_a1 : mI a1 = a1_j) {a2 : Int32} {a2_j : Int} (t_a2 : mI a2 = a2_j) {v_due : (Nat → Int32)} {v_due_j : (Nat → Int)} (t_v_due : mA v_due = v_due_j) : tl (mP mI mA) (iCounters_plainAt N_j a1_j a2_j v_due_j) (pCounters_plainAt N a1 a2 v_due) := by
  subst t_N
  subst t_a1
  subst t_a2
  subst t_v_due
  unfold iCounters_plainAt pCounters_plainAt
  refine tl_bd1 (t_pCounters_isPlace (Eq.refl (mI a2))) (fun rc1 => ?_)
  refine tl_ite (jc_eq (Eq.refl (mI rc1)) jlitI_0) ?_ ?_
  · exact (tl_some (jp2 jlitI_m1 (Eq.refl (mA v_due))))
  · refine tl_bd2 (t_pCounters_tellPlain (Eq.refl N) (Eq.refl (mI a1)) (Eq.refl (mA v_due))) (fun rc2 v_due_c2 => ?_)
    refine tl_ite (jc_eq (Eq.refl (mI rc2)) jlitI_0) ?_ ?_
    · exact (tl_some (jp2 jlitI_m1 (Eq.refl (mA v_due_c2))))
    · refine tl_gd (jg_ib (Eq.refl (mI a2))) (fun _ => ?_)
      exact (tl_some (jp2 (jrd (Eq.refl (mA v_due_c2)) (jx (Eq.refl (mI a2)))) (Eq.refl (mA v_due_c2))))
theorem t_pCounters_changeUpward_b4_F {N N_j : Nat} (t_N : N = N_j) {self : Int32 → Int32 → (Nat → Int32) → Option R_pCounters_changeUpward} {self_j : Int → Int → (Nat → Int) → Option R_iCounters_changeUpward} (t_self : ∀ (q0_ : Int32) (q1_ : Int32) (q2_ : (Nat → Int32)), tl (mP mI mA) (self_j (mI q0_) (mI q1_) (mA q2_)) (self q0_ q1_ q2_)) {x1 : Int32} {x1_j : Int} (t_x1 : mI x1 = x1_j) {x2 : Int32} {x2_j : Int} (t_x2 : mI x2 = x2_j) {v_trial : (Nat → Int32)} {v_trial_j : (Nat → Int)} (t_v_trial : mA v_trial = v_trial_j) : tl (mP mI mA) (iCounters_changeUpward_b4_F N_j self_j x1_j x2_j v_trial_j) (pCounters_changeUpward_b4_F N self x1 x2 v_trial) := by
  subst t_N
  subst t_x1
  subst t_x2
  subst t_v_trial
  unfold iCounters_changeUpward_b4_F pCounters_changeUpward_b4_F
  refine tl_ite (jc_le jlitI_12 (Eq.refl (mI x2))) ?_ ?_
  · exact (tl_some (jp2 (Eq.refl (mI x1)) (Eq.refl (mA v_trial))))
  · refine tl_gd (jg_ib (Eq.refl (mI x2))) (fun _ => ?_)
    refine tl_gd (jg_ib (Eq.refl (mI x2))) (fun _ => ?_)
    refine tl_gd (jg_n (jtab1 (jx (Eq.refl (mI x2))))) (fun _ => ?_)
    refine tl_g (fun h1 => ?_)
    refine tl_gd (jg_ib (ja_add (Eq.refl (mI x2)) jlitI_1 h1)) (fun _ => ?_)
    refine tl_g (fun h2 => ?_)
    refine tl_g (fun h3 => ?_)
    refine tl_ite (jc_le (jrd (jupA (jupA (Eq.refl (mA v_trial)) (jx (Eq.refl (mI x2))) (ja_rem (jrd (Eq.refl (mA v_trial)) (jx (Eq.refl (mI x2)))) (jtab1 (jx (Eq.refl (mI x2)))))) (jx (ja_add (Eq.refl (mI x2)) jlitI_1 h1)) (ja_add (jrd (jupA (Eq.refl (mA v_trial)) (jx (Eq.refl (mI x2))) (ja_rem (jrd (Eq.refl (mA v_trial)) (jx (Eq.refl (mI x2)))) (jtab1 (jx (Eq.refl (mI x2)))))) (jx (ja_add (Eq.refl (mI x2)) jlitI_1 h1))) (ja_div (jrd (Eq.refl (mA v_trial)) (jx (Eq.refl (mI x2)))) (jtab1 (jx (Eq.refl (mI x2)))) h2) h3)) (jx (ja_add (Eq.refl (mI x2)) jlitI_1 h1))) jlitI_99) ?_ ?_
    · refine tl_g (fun h4 => ?_)
      exact (tl_e3 (ja_add (Eq.refl (mI x1)) (ja_div (jrd (Eq.refl (mA v_trial)) (jx (Eq.refl (mI x2)))) (jtab1 (jx (Eq.refl (mI x2)))) h2) h4) (ja_add (Eq.refl (mI x2)) jlitI_1 h1) (jupA (jupA (Eq.refl (mA v_trial)) (jx (Eq.refl (mI x2))) (ja_rem (jrd (Eq.refl (mA v_trial)) (jx (Eq.refl (mI x2)))) (jtab1 (jx (Eq.refl (mI x2)))))) (jx (ja_add (Eq.refl (mI x2)) jlitI_1 h1)) (ja_add (jrd (jupA (Eq.refl (mA v_trial)) (jx (Eq.refl (mI x2))) (ja_rem (jrd (Eq.refl (mA v_trial)) (jx (Eq.refl (mI x2)))) (jtab1 (jx (Eq.refl (mI x2)))))) (jx (ja_add (Eq.refl (mI x2)) jlitI_1 h1))) (ja_div (jrd (Eq.refl (mA v_trial)) (jx (Eq.refl (mI x2)))) (jtab1 (jx (Eq.refl (mI x2)))) h2) h3)) (t_self _ _ _))
    · exact (tl_some (jp2 jlitI_m1 (jupA (jupA (Eq.refl (mA v_trial)) (jx (Eq.refl (mI x2))) (ja_rem (jrd (Eq.refl (mA v_trial)) (jx (Eq.refl (mI x2)))) (jtab1 (jx (Eq.refl (mI x2)))))) (jx (ja_add (Eq.refl (mI x2)) jlitI_1 h1)) (ja_add (jrd (jupA (Eq.refl (mA v_trial)) (jx (Eq.refl (mI x2))) (ja_rem (jrd (Eq.refl (mA v_trial)) (jx (Eq.refl (mI x2)))) (jtab1 (jx (Eq.refl (mI x2)))))) (jx (ja_add (Eq.refl (mI x2)) jlitI_1 h1))) (ja_div (jrd (Eq.refl (mA v_trial)) (jx (Eq.refl (mI x2)))) (jtab1 (jx (Eq.refl (mI x2)))) h2) h3))))
theorem t_pCounters_changeUpward_b4 {N N_j : Nat} (t_N : N = N_j) {n n_j : Nat} (t_n : n = n_j) {w0_ : Int32} {w0__j : Int} (t_w0_ : mI w0_ = w0__j) {w1_ : Int32} {w1__j : Int} (t_w1_ : mI w1_ = w1__j) {w2_ : (Nat → Int32)} {w2__j : (Nat → Int)} (t_w2_ : mA w2_ = w2__j) : tl (mP mI mA) (iCounters_changeUpward_b4 N_j n_j w0__j w1__j w2__j) (pCounters_changeUpward_b4 N n w0_ w1_ w2_) := by
  subst t_N
  subst t_n
  subst t_w0_
  subst t_w1_
  subst t_w2_
  exact tl_zlp3 (fun s2 s hs w0_ w1_ w2_ => t_pCounters_changeUpward_b4_F (Eq.refl N) hs (Eq.refl (mI w0_)) (Eq.refl (mI w1_)) (Eq.refl (mA w2_))) n w0_ w1_ w2_
theorem t_pCounters_changeUpward {N N_j : Nat} (t_N : N = N_j) {v_trial : (Nat → Int32)} {v_trial_j : (Nat → Int)} (t_v_trial : mA v_trial = v_trial_j) : tl (mP mI mA) (iCounters_changeUpward N_j v_trial_j) (pCounters_changeUpward N v_trial) := by
  subst t_N
  subst t_v_trial
  unfold iCounters_changeUpward pCounters_changeUpward
  exact (t_pCounters_changeUpward_b4 (Eq.refl N) (Eq.refl N) jlitI_0 jlitI_0 (Eq.refl (mA v_trial)))
theorem t_pCounters_add_b12_F {N N_j : Nat} (t_N : N = N_j) {a1 : Int32} {a1_j : Int} (t_a1 : mI a1 = a1_j) {v_due : (Nat → Int32)} {v_due_j : (Nat → Int)} (t_v_due : mA v_due = v_due_j) {v_lying : (Nat → Int32)} {v_lying_j : (Nat → Int)} (t_v_lying : mA v_lying = v_lying_j) {k56 : (Nat → Int32) → Option R_pCounters_add} {k56_j : (Nat → Int) → Option R_iCounters_add} (t_k56 : ∀ (q0_ : (Nat → Int32)), tl (mP mI (mP mA (mP mA mA))) (k56_j (mA q0_)) (k56 q0_)) {self : Int32 → (Nat → Int32) → Option R_pCounters_add} {self_j : Int → (Nat → Int) → Option R_iCounters_add} (t_self : ∀ (q0_ : Int32) (q1_ : (Nat → Int32)), tl (mP mI (mP mA (mP mA mA))) (self_j (mI q0_) (mA q1_)) (self q0_ q1_)) {x2 : Int32} {x2_j : Int} (t_x2 : mI x2 = x2_j) {v_trial : (Nat → Int32)} {v_trial_j : (Nat → Int)} (t_v_trial : mA v_trial = v_trial_j) : tl (mP mI (mP mA (mP mA mA))) (iCounters_add_b12_F N_j a1_j v_due_j v_lying_j k56_j self_j x2_j v_trial_j) (pCounters_add_b12_F N a1 v_due v_lying k56 self x2 v_trial) := by
  subst t_N
  subst t_a1
  subst t_v_due
  subst t_v_lying
  subst t_x2
  subst t_v_trial
  unfold iCounters_add_b12_F pCounters_add_b12_F
  refine tl_ite (jc_le jlitI_13 (Eq.refl (mI x2))) ?_ ?_
  · exact (tl_e1 (Eq.refl (mA v_trial)) (t_k56 _))
  · refine tl_gd (jg_ib (Eq.refl (mI x2))) (fun _ => ?_)
    refine tl_g (fun h1 => ?_)
    refine tl_ite (jc_le (jrd (jupA (Eq.refl (mA v_trial)) (jx (Eq.refl (mI x2))) (ja_add (jrd (Eq.refl (mA v_lying)) (jx (Eq.refl (mI x2)))) (jrd (Eq.refl (mA v_due)) (jx (Eq.refl (mI x2)))) h1)) (jx (Eq.refl (mI x2)))) jlitI_99) ?_ ?_
    · refine tl_g (fun h2 => ?_)
      exact (tl_e2 (ja_add (Eq.refl (mI x2)) jlitI_1 h2) (jupA (Eq.refl (mA v_trial)) (jx (Eq.refl (mI x2))) (ja_add (jrd (Eq.refl (mA v_lying)) (jx (Eq.refl (mI x2)))) (jrd (Eq.refl (mA v_due)) (jx (Eq.refl (mI x2)))) h1)) (t_self _ _))
    · exact (tl_some (jp2 jlitI_m1 (jp2 (Eq.refl (mA v_due)) (jp2 (Eq.refl (mA v_lying)) (jupA (Eq.refl (mA v_trial)) (jx (Eq.refl (mI x2))) (ja_add (jrd (Eq.refl (mA v_lying)) (jx (Eq.refl (mI x2)))) (jrd (Eq.refl (mA v_due)) (jx (Eq.refl (mI x2)))) h1))))))
theorem t_pCounters_add_b12 {N N_j : Nat} (t_N : N = N_j) {a1 : Int32} {a1_j : Int} (t_a1 : mI a1 = a1_j) {v_due : (Nat → Int32)} {v_due_j : (Nat → Int)} (t_v_due : mA v_due = v_due_j) {v_lying : (Nat → Int32)} {v_lying_j : (Nat → Int)} (t_v_lying : mA v_lying = v_lying_j) {k56 : (Nat → Int32) → Option R_pCounters_add} {k56_j : (Nat → Int) → Option R_iCounters_add} (t_k56 : ∀ (q0_ : (Nat → Int32)), tl (mP mI (mP mA (mP mA mA))) (k56_j (mA q0_)) (k56 q0_)) {n n_j : Nat} (t_n : n = n_j) {w0_ : Int32} {w0__j : Int} (t_w0_ : mI w0_ = w0__j) {w1_ : (Nat → Int32)} {w1__j : (Nat → Int)} (t_w1_ : mA w1_ = w1__j) : tl (mP mI (mP mA (mP mA mA))) (iCounters_add_b12 N_j a1_j v_due_j v_lying_j k56_j n_j w0__j w1__j) (pCounters_add_b12 N a1 v_due v_lying k56 n w0_ w1_) := by
  subst t_N
  subst t_a1
  subst t_v_due
  subst t_v_lying
  subst t_n
  subst t_w0_
  subst t_w1_
  exact tl_zlp2 (fun s2 s hs w0_ w1_ => t_pCounters_add_b12_F (Eq.refl N) (Eq.refl (mI a1)) (Eq.refl (mA v_due)) (Eq.refl (mA v_lying)) t_k56 hs (Eq.refl (mI w0_)) (Eq.refl (mA w1_))) n w0_ w1_
theorem t_pCounters_add_b56 {N N_j : Nat} (t_N : N = N_j) {a1 : Int32} {a1_j : Int} (t_a1 : mI a1 = a1_j) {v_due : (Nat → Int32)} {v_due_j : (Nat → Int)} (t_v_due : mA v_due = v_due_j) {v_lying : (Nat → Int32)} {v_lying_j : (Nat → Int)} (t_v_lying : mA v_lying = v_lying_j) {v_trial : (Nat → Int32)} {v_trial_j : (Nat → Int)} (t_v_trial : mA v_trial = v_trial_j) : tl (mP mI (mP mA (mP mA mA))) (iCounters_add_b56 N_j a1_j v_due_j v_lying_j v_trial_j) (pCounters_add_b56 N a1 v_due v_lying v_trial) := by
  subst t_N
  subst t_a1
  subst t_v_due
  subst t_v_lying
  subst t_v_trial
  unfold iCounters_add_b56 pCounters_add_b56
  refine tl_bd2 (t_pCounters_changeUpward (Eq.refl N) (Eq.refl (mA v_trial))) (fun rc3 v_trial_c3 => ?_)
  refine tl_ite (jc_eq (Eq.refl (mI rc3)) jlitI_m1) ?_ ?_
  · exact (tl_some (jp2 (Eq.refl (mI rc3)) (jp2 (Eq.refl (mA v_due)) (jp2 (Eq.refl (mA v_lying)) (Eq.refl (mA v_trial_c3))))))
  · exact (tl_some (jp2 (Eq.refl (mI rc3)) (jp2 (Eq.refl (mA v_due)) (jp2 (jcpA (Eq.refl (mA v_trial_c3)) (Eq.refl (mA v_lying)) (jx jlitI_0) (jx jlitI_0) (jx jlitI_13)) (Eq.refl (mA v_trial_c3))))))
theorem t_pCounters_add {N N_j : Nat} (t_N : N = N_j) {a1 : Int32} {a1_j : Int} (t_a1 : mI a1 = a1_j) {v_due : (Nat → Int32)} {v_due_j : (Nat → Int)} (t_v_due : mA v_due = v_due_j) {v_lying : (Nat → Int32)} {v_lying_j : (Nat → Int)} (t_v_lying : mA v_lying = v_lying_j) {v_trial : (Nat → Int32)} {v_trial_j : (Nat → Int)} (t_v_trial : mA v_trial = v_trial_j) : tl (mP mI (mP mA (mP mA mA))) (iCounters_add N_j a1_j v_due_j v_lying_j v_trial_j) (pCounters_add N a1 v_due v_lying v_trial) := by
  subst t_N
  subst t_a1
  subst t_v_due
  subst t_v_lying
  subst t_v_trial
  unfold iCounters_add pCounters_add
  refine tl_bd2 (t_pCounters_tellPlain (Eq.refl N) (Eq.refl (mI a1)) (Eq.refl (mA v_due))) (fun rc1 v_due_c1 => ?_)
  refine tl_ite (jc_eq (Eq.refl (mI rc1)) jlitI_0) ?_ ?_
  · exact (tl_some (jp2 jlitI_m1 (jp2 (Eq.refl (mA v_due_c1)) (jp2 (Eq.refl (mA v_lying)) (Eq.refl (mA v_trial))))))
  · exact (t_pCounters_add_b12 (Eq.refl N) (Eq.refl (mI a1)) (Eq.refl (mA v_due_c1)) (Eq.refl (mA v_lying)) (fun e4_ => by exact (t_pCounters_add_b56 (Eq.refl N) (Eq.refl (mI a1)) (Eq.refl (mA v_due_c1)) (Eq.refl (mA v_lying)) (Eq.refl (mA e4_)))) (Eq.refl N) jlitI_0 (Eq.refl (mA v_trial)))
theorem t_pCounters_breakInto_b4_F {N N_j : Nat} (t_N : N = N_j) {a1 : Int32} {a1_j : Int} (t_a1 : mI a1 = a1_j) {v_trial : (Nat → Int32)} {v_trial_j : (Nat → Int)} (t_v_trial : mA v_trial = v_trial_j) {k25 : Int32 → Option R_pCounters_breakInto} {k25_j : Int → Option R_iCounters_breakInto} (t_k25 : ∀ (q0_ : Int32), tl (mP mI mA) (k25_j (mI q0_)) (k25 q0_)) {self : Int32 → Option R_pCounters_breakInto} {self_j : Int → Option R_iCounters_breakInto} (t_self : ∀ (q0_ : Int32), tl (mP mI mA) (self_j (mI q0_)) (self q0_)) {x2 : Int32} {x2_j : Int} (t_x2 : mI x2 = x2_j) : tl (mP mI mA) (iCounters_breakInto_b4_F N_j a1_j v_trial_j k25_j self_j x2_j) (pCounters_breakInto_b4_F N a1 v_trial k25 self x2) := by
  subst t_N
  subst t_a1
  subst t_v_trial
  subst t_x2
  unfold iCounters_breakInto_b4_F pCounters_breakInto_b4_F
  refine tl_ite (jc_le jlitI_13 (Eq.refl (mI x2))) ?_ ?_
  · exact (tl_e1 (Eq.refl (mI x2)) (t_k25 _))
  · refine tl_gd (jg_ib (Eq.refl (mI x2))) (fun _ => ?_)
    refine tl_ite (jc_eq (jrd (Eq.refl (mA v_trial)) (jx (Eq.refl (mI x2)))) jlitI_0) ?_ ?_
    · refine tl_g (fun h1 => ?_)
      exact (tl_e1 (ja_add (Eq.refl (mI x2)) jlitI_1 h1) (t_self _))
    · exact (tl_e1 (Eq.refl (mI x2)) (t_k25 _))
theorem t_pCounters_breakInto_b4 {N N_j : Nat} (t_N : N = N_j) {a1 : Int32} {a1_j : Int} (t_a1 : mI a1 = a1_j) {v_trial : (Nat → Int32)} {v_trial_j : (Nat → Int)} (t_v_trial : mA v_trial = v_trial_j) {k25 : Int32 → Option R_pCounters_breakInto} {k25_j : Int → Option R_iCounters_breakInto} (t_k25 : ∀ (q0_ : Int32), tl (mP mI mA) (k25_j (mI q0_)) (k25 q0_)) {n n_j : Nat} (t_n : n = n_j) {w0_ : Int32} {w0__j : Int} (t_w0_ : mI w0_ = w0__j) : tl (mP mI mA) (iCounters_breakInto_b4 N_j a1_j v_trial_j k25_j n_j w0__j) (pCounters_breakInto_b4 N a1 v_trial k25 n w0_) := by
  subst t_N
  subst t_a1
  subst t_v_trial
  subst t_n
  subst t_w0_
  exact tl_zlp1 (fun s2 s hs w0_ => t_pCounters_breakInto_b4_F (Eq.refl N) (Eq.refl (mI a1)) (Eq.refl (mA v_trial)) t_k25 hs (Eq.refl (mI w0_))) n w0_
theorem t_pCounters_breakInto_b35_F {N N_j : Nat} (t_N : N = N_j) {a1 : Int32} {a1_j : Int} (t_a1 : mI a1 = a1_j) {x2 : Int32} {x2_j : Int} (t_x2 : mI x2 = x2_j) {self : Int32 → (Nat → Int32) → Option R_pCounters_breakInto} {self_j : Int → (Nat → Int) → Option R_iCounters_breakInto} (t_self : ∀ (q0_ : Int32) (q1_ : (Nat → Int32)), tl (mP mI mA) (self_j (mI q0_) (mA q1_)) (self q0_ q1_)) {x3 : Int32} {x3_j : Int} (t_x3 : mI x3 = x3_j) {v_trial : (Nat → Int32)} {v_trial_j : (Nat → Int)} (t_v_trial : mA v_trial = v_trial_j) : tl (mP mI mA) (iCounters_breakInto_b35_F N_j a1_j x2_j self_j x3_j v_trial_j) (pCounters_breakInto_b35_F N a1 x2 self x3 v_trial) := by
  subst t_N
  subst t_a1
  subst t_x2
  subst t_x3
  subst t_v_trial
  unfold iCounters_breakInto_b35_F pCounters_breakInto_b35_F
  refine tl_ite (jc_le (Eq.refl (mI x3)) (Eq.refl (mI a1))) ?_ ?_
  · refine tl_g (fun h1 => ?_)
    exact (tl_some (jp2 (ja_sub (Eq.refl (mI x2)) (Eq.refl (mI a1)) h1) (Eq.refl (mA v_trial))))
  · refine tl_gd (jg_ib (Eq.refl (mI x3))) (fun _ => ?_)
    refine tl_g (fun h2 => ?_)
    refine tl_gd (jg_ib (ja_sub (Eq.refl (mI x3)) jlitI_1 h2)) (fun _ => ?_)
    refine tl_gd (jg_ib (ja_sub (Eq.refl (mI x3)) jlitI_1 h2)) (fun _ => ?_)
    refine tl_g (fun h3 => ?_)
    refine tl_g (fun h4 => ?_)
    refine tl_g (fun h5 => ?_)
    exact (tl_e2 (ja_add (Eq.refl (mI x3)) jlitI_m1 h3) (jupA (jupA (Eq.refl (mA v_trial)) (jx (Eq.refl (mI x3))) (ja_sub (jrd (Eq.refl (mA v_trial)) (jx (Eq.refl (mI x3)))) jlitI_1 h4)) (jx (ja_sub (Eq.refl (mI x3)) jlitI_1 h2)) (ja_add (jrd (jupA (Eq.refl (mA v_trial)) (jx (Eq.refl (mI x3))) (ja_sub (jrd (Eq.refl (mA v_trial)) (jx (Eq.refl (mI x3)))) jlitI_1 h4)) (jx (ja_sub (Eq.refl (mI x3)) jlitI_1 h2))) (jtab1 (jx (ja_sub (Eq.refl (mI x3)) jlitI_1 h2))) h5)) (t_self _ _))
theorem t_pCounters_breakInto_b35 {N N_j : Nat} (t_N : N = N_j) {a1 : Int32} {a1_j : Int} (t_a1 : mI a1 = a1_j) {x2 : Int32} {x2_j : Int} (t_x2 : mI x2 = x2_j) {n n_j : Nat} (t_n : n = n_j) {w0_ : Int32} {w0__j : Int} (t_w0_ : mI w0_ = w0__j) {w1_ : (Nat → Int32)} {w1__j : (Nat → Int)} (t_w1_ : mA w1_ = w1__j) : tl (mP mI mA) (iCounters_breakInto_b35 N_j a1_j x2_j n_j w0__j w1__j) (pCounters_breakInto_b35 N a1 x2 n w0_ w1_) := by
  subst t_N
  subst t_a1
  subst t_x2
  subst t_n
  subst t_w0_
  subst t_w1_
  exact tl_zlp2 (fun s2 s hs w0_ w1_ => t_pCounters_breakInto_b35_F (Eq.refl N) (Eq.refl (mI a1)) (Eq.refl (mI x2)) hs (Eq.refl (mI w0_)) (Eq.refl (mA w1_))) n w0_ w1_
theorem t_pCounters_breakInto_b25 {N N_j : Nat} (t_N : N = N_j) {a1 : Int32} {a1_j : Int} (t_a1 : mI a1 = a1_j) {x2 : Int32} {x2_j : Int} (t_x2 : mI x2 = x2_j) {v_trial : (Nat → Int32)} {v_trial_j : (Nat → Int)} (t_v_trial : mA v_trial = v_trial_j) : tl (mP mI mA) (iCounters_breakInto_b25 N_j a1_j x2_j v_trial_j) (pCounters_breakInto_b25 N a1 x2 v_trial) := by
  subst t_N
  subst t_a1
  subst t_x2
  subst t_v_trial
  unfold iCounters_breakInto_b25 pCounters_breakInto_b25
  refine tl_ite (jc_lt (Eq.refl (mI x2)) jlitI_13) ?_ ?_
  · exact (t_pCounters_breakInto_b35 (Eq.refl N) (Eq.refl (mI a1)) (Eq.refl (mI x2)) (Eq.refl N) (Eq.refl (mI x2)) (Eq.refl (mA v_trial)))
  · exact (tl_some (jp2 jlitI_0 (Eq.refl (mA v_trial))))
theorem t_pCounters_breakInto {N N_j : Nat} (t_N : N = N_j) {a1 : Int32} {a1_j : Int} (t_a1 : mI a1 = a1_j) {v_trial : (Nat → Int32)} {v_trial_j : (Nat → Int)} (t_v_trial : mA v_trial = v_trial_j) : tl (mP mI mA) (iCounters_breakInto N_j a1_j v_trial_j) (pCounters_breakInto N a1 v_trial) := by
  subst t_N
  subst t_a1
  subst t_v_trial
  unfold iCounters_breakInto pCounters_breakInto
  refine tl_g (fun h1 => ?_)
  exact (t_pCounters_breakInto_b4 (Eq.refl N) (Eq.refl (mI a1)) (Eq.refl (mA v_trial)) (fun x2_k1 => by exact (t_pCounters_breakInto_b25 (Eq.refl N) (Eq.refl (mI a1)) (Eq.refl (mI x2_k1)) (Eq.refl (mA v_trial)))) (Eq.refl N) (ja_add (Eq.refl (mI a1)) jlitI_1 h1))
theorem t_pCounters_take_b38_F {N N_j : Nat} (t_N : N = N_j) {a1 : Int32} {a1_j : Int} (t_a1 : mI a1 = a1_j) {x3 : Int32} {x3_j : Int} (t_x3 : mI x3 = x3_j) {v_due : (Nat → Int32)} {v_due_j : (Nat → Int)} (t_v_due : mA v_due = v_due_j) {v_lying : (Nat → Int32)} {v_lying_j : (Nat → Int)} (t_v_lying : mA v_lying = v_lying_j) {k74 : Int32 → (Nat → Int32) → Option R_pCounters_take} {k74_j : Int → (Nat → Int) → Option R_iCounters_take} (t_k74 : ∀ (q0_ : Int32) (q1_ : (Nat → Int32)), tl (mP mI (mP mA (mP mA mA))) (k74_j (mI q0_) (mA q1_)) (k74 q0_ q1_)) {self : Int32 → Int32 → (Nat → Int32) → Option R_pCounters_take} {self_j : Int → Int → (Nat → Int) → Option R_iCounters_take} (t_self : ∀ (q0_ : Int32) (q1_ : Int32) (q2_ : (Nat → Int32)), tl (mP mI (mP mA (mP mA mA))) (self_j (mI q0_) (mI q1_) (mA q2_)) (self q0_ q1_ q2_)) {x2 : Int32} {x2_j : Int} (t_x2 : mI x2 = x2_j) {x4 : Int32} {x4_j : Int} (t_x4 : mI x4 = x4_j) {v_trial : (Nat → Int32)} {v_trial_j : (Nat → Int)} (t_v_trial : mA v_trial = v_trial_j) : tl (mP mI (mP mA (mP mA mA))) (iCounters_take_b38_F N_j a1_j x3_j v_due_j v_lying_j k74_j self_j x2_j x4_j v_trial_j) (pCounters_take_b38_F N a1 x3 v_due v_lying k74 self x2 x4 v_trial) := by
  subst t_N
  subst t_a1
  subst t_x3
  subst t_v_due
  subst t_v_lying
  subst t_x2
  subst t_x4
  subst t_v_trial
  unfold iCounters_take_b38_F pCounters_take_b38_F
  refine tl_ite (jc_le jlitI_99 (Eq.refl (mI x4))) ?_ ?_
  · exact (tl_e2 (Eq.refl (mI x2)) (Eq.refl (mA v_trial)) (t_k74 _ _))
  · refine tl_gd (jg_ib (Eq.refl (mI x3))) (fun _ => ?_)
    refine tl_ite (jc_le (jrd (Eq.refl (mA v_due)) (jx (Eq.refl (mI x3)))) (jrd (Eq.refl (mA v_trial)) (jx (Eq.refl (mI x3))))) ?_ ?_
    · exact (tl_e2 (Eq.refl (mI x2)) (Eq.refl (mA v_trial)) (t_k74 _ _))
    · refine tl_bd2 (t_pCounters_breakInto (Eq.refl N) (Eq.refl (mI x3)) (Eq.refl (mA v_trial))) (fun rc3 v_trial_c3 => ?_)
      refine tl_g (fun h1 => ?_)
      refine tl_g (fun h2 => ?_)
      exact (tl_e3 (ja_add (Eq.refl (mI x2)) (Eq.refl (mI rc3)) h1) (ja_add (Eq.refl (mI x4)) jlitI_1 h2) (Eq.refl (mA v_trial_c3)) (t_self _ _ _))
theorem t_pCounters_take_b38 {N N_j : Nat} (t_N : N = N_j) {a1 : Int32} {a1_j : Int} (t_a1 : mI a1 = a1_j) {x3 : Int32} {x3_j : Int} (t_x3 : mI x3 = x3_j) {v_due : (Nat → Int32)} {v_due_j : (Nat → Int)} (t_v_due : mA v_due = v_due_j) {v_lying : (Nat → Int32)} {v_lying_j : (Nat → Int)} (t_v_lying : mA v_lying = v_lying_j) {k74 : Int32 → (Nat → Int32) → Option R_pCounters_take} {k74_j : Int → (Nat → Int) → Option R_iCounters_take} (t_k74 : ∀ (q0_ : Int32) (q1_ : (Nat → Int32)), tl (mP mI (mP mA (mP mA mA))) (k74_j (mI q0_) (mA q1_)) (k74 q0_ q1_)) {n n_j : Nat} (t_n : n = n_j) {w0_ : Int32} {w0__j : Int} (t_w0_ : mI w0_ = w0__j) {w1_ : Int32} {w1__j : Int} (t_w1_ : mI w1_ = w1__j) {w2_ : (Nat → Int32)} {w2__j : (Nat → Int)} (t_w2_ : mA w2_ = w2__j) : tl (mP mI (mP mA (mP mA mA))) (iCounters_take_b38 N_j a1_j x3_j v_due_j v_lying_j k74_j n_j w0__j w1__j w2__j) (pCounters_take_b38 N a1 x3 v_due v_lying k74 n w0_ w1_ w2_) := by
  subst t_N
  subst t_a1
  subst t_x3
  subst t_v_due
  subst t_v_lying
  subst t_n
  subst t_w0_
  subst t_w1_
  subst t_w2_
  exact tl_zlp3 (fun s2 s hs w0_ w1_ w2_ => t_pCounters_take_b38_F (Eq.refl N) (Eq.refl (mI a1)) (Eq.refl (mI x3)) (Eq.refl (mA v_due)) (Eq.refl (mA v_lying)) t_k74 hs (Eq.refl (mI w0_)) (Eq.refl (mI w1_)) (Eq.refl (mA w2_))) n w0_ w1_ w2_
theorem t_pCounters_take_b74 {N N_j : Nat} (t_N : N = N_j) {a1 : Int32} {a1_j : Int} (t_a1 : mI a1 = a1_j) {self : Int32 → Int32 → (Nat → Int32) → Option R_pCounters_take} {self_j : Int → Int → (Nat → Int) → Option R_iCounters_take} (t_self : ∀ (q0_ : Int32) (q1_ : Int32) (q2_ : (Nat → Int32)), tl (mP mI (mP mA (mP mA mA))) (self_j (mI q0_) (mI q1_) (mA q2_)) (self q0_ q1_ q2_)) {k112 : Int32 → (Nat → Int32) → Option R_pCounters_take} {k112_j : Int → (Nat → Int) → Option R_iCounters_take} (t_k112 : ∀ (q0_ : Int32) (q1_ : (Nat → Int32)), tl (mP mI (mP mA (mP mA mA))) (k112_j (mI q0_) (mA q1_)) (k112 q0_ q1_)) {x2 : Int32} {x2_j : Int} (t_x2 : mI x2 = x2_j) {x3 : Int32} {x3_j : Int} (t_x3 : mI x3 = x3_j) {v_due : (Nat → Int32)} {v_due_j : (Nat → Int)} (t_v_due : mA v_due = v_due_j) {v_lying : (Nat → Int32)} {v_lying_j : (Nat → Int)} (t_v_lying : mA v_lying = v_lying_j) {v_trial : (Nat → Int32)} {v_trial_j : (Nat → Int)} (t_v_trial : mA v_trial = v_trial_j) : tl (mP mI (mP mA (mP mA mA))) (iCounters_take_b74 N_j a1_j self_j k112_j x2_j x3_j v_due_j v_lying_j v_trial_j) (pCounters_take_b74 N a1 self k112 x2 x3 v_due v_lying v_trial) := by
  subst t_N
  subst t_a1
  subst t_x2
  subst t_x3
  subst t_v_due
  subst t_v_lying
  subst t_v_trial
  unfold iCounters_take_b74 pCounters_take_b74
  refine tl_gd (jg_ib (Eq.refl (mI x3))) (fun _ => ?_)
  refine tl_ite (jc_le (jrd (Eq.refl (mA v_due)) (jx (Eq.refl (mI x3)))) (jrd (Eq.refl (mA v_trial)) (jx (Eq.refl (mI x3))))) ?_ ?_
  · refine tl_g (fun h1 => ?_)
    refine tl_g (fun h2 => ?_)
    exact (tl_e3 (Eq.refl (mI x2)) (ja_add (Eq.refl (mI x3)) jlitI_1 h1) (jupA (Eq.refl (mA v_trial)) (jx (Eq.refl (mI x3))) (ja_sub (jrd (Eq.refl (mA v_trial)) (jx (Eq.refl (mI x3)))) (jrd (Eq.refl (mA v_due)) (jx (Eq.refl (mI x3)))) h2)) (t_self _ _ _))
  · exact (tl_some (jp2 jlitI_m1 (jp2 (Eq.refl (mA v_due)) (jp2 (Eq.refl (mA v_lying)) (Eq.refl (mA v_trial))))))
theorem t_pCounters_take_b29_F {N N_j : Nat} (t_N : N = N_j) {a1 : Int32} {a1_j : Int} (t_a1 : mI a1 = a1_j) {v_due : (Nat → Int32)} {v_due_j : (Nat → Int)} (t_v_due : mA v_due = v_due_j) {v_lying : (Nat → Int32)} {v_lying_j : (Nat → Int)} (t_v_lying : mA v_lying = v_lying_j) {k112 : Int32 → (Nat → Int32) → Option R_pCounters_take} {k112_j : Int → (Nat → Int) → Option R_iCounters_take} (t_k112 : ∀ (q0_ : Int32) (q1_ : (Nat → Int32)), tl (mP mI (mP mA (mP mA mA))) (k112_j (mI q0_) (mA q1_)) (k112 q0_ q1_)) {self : Int32 → Int32 → (Nat → Int32) → Option R_pCounters_take} {self_j : Int → Int → (Nat → Int) → Option R_iCounters_take} (t_self : ∀ (q0_ : Int32) (q1_ : Int32) (q2_ : (Nat → Int32)), tl (mP mI (mP mA (mP mA mA))) (self_j (mI q0_) (mI q1_) (mA q2_)) (self q0_ q1_ q2_)) {x2 : Int32} {x2_j : Int} (t_x2 : mI x2 = x2_j) {x3 : Int32} {x3_j : Int} (t_x3 : mI x3 = x3_j) {v_trial : (Nat → Int32)} {v_trial_j : (Nat → Int)} (t_v_trial : mA v_trial = v_trial_j) : tl (mP mI (mP mA (mP mA mA))) (iCounters_take_b29_F N_j a1_j v_due_j v_lying_j k112_j self_j x2_j x3_j v_trial_j) (pCounters_take_b29_F N a1 v_due v_lying k112 self x2 x3 v_trial) := by
  subst t_N
  subst t_a1
  subst t_v_due
  subst t_v_lying
  subst t_x2
  subst t_x3
  subst t_v_trial
  unfold iCounters_take_b29_F pCounters_take_b29_F
  refine tl_ite (jc_le jlitI_13 (Eq.refl (mI x3))) ?_ ?_
  · exact (tl_e2 (Eq.refl (mI x2)) (Eq.refl (mA v_trial)) (t_k112 _ _))
  · exact (t_pCounters_take_b38 (Eq.refl N) (Eq.refl (mI a1)) (Eq.refl (mI x3)) (Eq.refl (mA v_due)) (Eq.refl (mA v_lying)) (fun x2_k1 e8_ => by exact (t_pCounters_take_b74 (Eq.refl N) (Eq.refl (mI a1)) t_self t_k112 (Eq.refl (mI x2_k1)) (Eq.refl (mI x3)) (Eq.refl (mA v_due)) (Eq.refl (mA v_lying)) (Eq.refl (mA e8_)))) (Eq.refl N) (Eq.refl (mI x2)) jlitI_0 (Eq.refl (mA v_trial)))
theorem t_pCounters_take_b29 {N N_j : Nat} (t_N : N = N_j) {a1 : Int32} {a1_j : Int} (t_a1 : mI a1 = a1_j) {v_due : (Nat → Int32)} {v_due_j : (Nat → Int)} (t_v_due : mA v_due = v_due_j) {v_lying : (Nat → Int32)} {v_lying_j : (Nat → Int)} (t_v_lying : mA v_lying = v_lying_j) {k112 : Int32 → (Nat → Int32) → Option R_pCounters_take} {k112_j : Int → (Nat → Int) → Option R_iCounters_take} (t_k112 : ∀ (q0_ : Int32) (q1_ : (Nat → Int32)), tl (mP mI (mP mA (mP mA mA))) (k112_j (mI q0_) (mA q1_)) (k112 q0_ q1_)) {n n_j : Nat} (t_n : n = n_j) {w0_ : Int32} {w0__j : Int} (t_w0_ : mI w0_ = w0__j) {w1_ : Int32} {w1__j : Int} (t_w1_ : mI w1_ = w1__j) {w2_ : (Nat → Int32)} {w2__j : (Nat → Int)} (t_w2_ : mA w2_ = w2__j) : tl (mP mI (mP mA (mP mA mA))) (iCounters_take_b29 N_j a1_j v_due_j v_lying_j k112_j n_j w0__j w1__j w2__j) (pCounters_take_b29 N a1 v_due v_lying k112 n w0_ w1_ w2_) := by
  subst t_N
  subst t_a1
  subst t_v_due
  subst t_v_lying
  subst t_n
  subst t_w0_
  subst t_w1_
  subst t_w2_
  exact tl_zlp3 (fun s2 s hs w0_ w1_ w2_ => t_pCounters_take_b29_F (Eq.refl N) (Eq.refl (mI a1)) (Eq.refl (mA v_due)) (Eq.refl (mA v_lying)) t_k112 hs (Eq.refl (mI w0_)) (Eq.refl (mI w1_)) (Eq.refl (mA w2_))) n w0_ w1_ w2_
theorem t_pCounters_take_b112 {N N_j : Nat} (t_N : N = N_j) {a1 : Int32} {a1_j : Int} (t_a1 : mI a1 = a1_j) {x2 : Int32} {x2_j : Int} (t_x2 : mI x2 = x2_j) {v_due : (Nat → Int32)} {v_due_j : (Nat → Int)} (t_v_due : mA v_due = v_due_j) {v_lying : (Nat → Int32)} {v_lying_j : (Nat → Int)} (t_v_lying : mA v_lying = v_lying_j) {v_trial : (Nat → Int32)} {v_trial_j : (Nat → Int)} (t_v_trial : mA v_trial = v_trial_j) : tl (mP mI (mP mA (mP mA mA))) (iCounters_take_b112 N_j a1_j x2_j v_due_j v_lying_j v_trial_j) (pCounters_take_b112 N a1 x2 v_due v_lying v_trial) := by
  subst t_N
  subst t_a1
  subst t_x2
  subst t_v_due
  subst t_v_lying
  subst t_v_trial
  unfold iCounters_take_b112 pCounters_take_b112
  exact (tl_some (jp2 (Eq.refl (mI x2)) (jp2 (Eq.refl (mA v_due)) (jp2 (jcpA (Eq.refl (mA v_trial)) (Eq.refl (mA v_lying)) (jx jlitI_0) (jx jlitI_0) (jx jlitI_13)) (Eq.refl (mA v_trial))))))
theorem t_pCounters_take {N N_j : Nat} (t_N : N = N_j) {a1 : Int32} {a1_j : Int} (t_a1 : mI a1 = a1_j) {v_due : (Nat → Int32)} {v_due_j : (Nat → Int)} (t_v_due : mA v_due = v_due_j) {v_lying : (Nat → Int32)} {v_lying_j : (Nat → Int)} (t_v_lying : mA v_lying = v_lying_j) {v_trial : (Nat → Int32)} {v_trial_j : (Nat → Int)} (t_v_trial : mA v_trial = v_trial_j) : tl (mP mI (mP mA (mP mA mA))) (iCounters_take N_j a1_j v_due_j v_lying_j v_trial_j) (pCounters_take N a1 v_due v_lying v_trial) := by
  subst t_N
  subst t_a1
  subst t_v_due
  subst t_v_lying
  subst t_v_trial
  unfold iCounters_take pCounters_take
  refine tl_bd2 (t_pCounters_tellPlain (Eq.refl N) (Eq.refl (mI a1)) (Eq.refl (mA v_due))) (fun rc1 v_due_c1 => ?_)
  refine tl_ite (jc_eq (Eq.refl (mI rc1)) jlitI_0) ?_ ?_
  · exact (tl_some (jp2 jlitI_m1 (jp2 (Eq.refl (mA v_due_c1)) (jp2 (Eq.refl (mA v_lying)) (Eq.refl (mA v_trial))))))
  · exact (t_pCounters_take_b29 (Eq.refl N) (Eq.refl (mI a1)) (Eq.refl (mA v_due_c1)) (Eq.refl (mA v_lying)) (fun x2_k3 e5_ => by exact (t_pCounters_take_b112 (Eq.refl N) (Eq.refl (mI a1)) (Eq.refl (mI x2_k3)) (Eq.refl (mA v_due_c1)) (Eq.refl (mA v_lying)) (Eq.refl (mA e5_)))) (Eq.refl N) jlitI_0 jlitI_0 (jcpA (Eq.refl (mA v_lying)) (Eq.refl (mA v_trial)) (jx jlitI_0) (jx jlitI_0) (jx jlitI_13)))
theorem t_pCounters_cheaper {a0 : Int32} {a0_j : Int} (t_a0 : mI a0 = a0_j) {a1 : Int32} {a1_j : Int} (t_a1 : mI a1 = a1_j) {a2 : Int32} {a2_j : Int} (t_a2 : mI a2 = a2_j) {a3 : Int32} {a3_j : Int} (t_a3 : mI a3 = a3_j) : tl (mI) (iCounters_cheaper a0_j a1_j a2_j a3_j) (pCounters_cheaper a0 a1 a2 a3) := by
  subst t_a0
  subst t_a1
  subst t_a2
  subst t_a3
  unfold iCounters_cheaper pCounters_cheaper
  refine tl_g (fun h1 => ?_)
  refine tl_g (fun h2 => ?_)
  refine tl_g (fun h3 => ?_)
  refine tl_g (fun h4 => ?_)
  exact (tl_some (ja_min (ja_add (Eq.refl (mI a0)) (ja_abs (Eq.refl (mI a1)) h1) h2) (ja_add (Eq.refl (mI a2)) (ja_abs (Eq.refl (mI a3)) h3) h4)))
theorem t_pCounters_fewestSteps_b21_F {N N_j : Nat} (t_N : N = N_j) {a1 : Int32} {a1_j : Int} (t_a1 : mI a1 = a1_j) {v_lying : (Nat → Int32)} {v_lying_j : (Nat → Int)} (t_v_lying : mA v_lying = v_lying_j) {v_due : (Nat → Int32)} {v_due_j : (Nat → Int)} (t_v_due : mA v_due = v_due_j) {k141 : Int32 → Int32 → Int32 → Option R_pCounters_fewestSteps} {k141_j : Int → Int → Int → Option R_iCounters_fewestSteps} (t_k141 : ∀ (q0_ : Int32) (q1_ : Int32) (q2_ : Int32), tl (mP mI mA) (k141_j (mI q0_) (mI q1_) (mI q2_)) (k141 q0_ q1_ q2_)) {self : Int32 → Int32 → Int32 → Int32 → Option R_pCounters_fewestSteps} {self_j : Int → Int → Int → Int → Option R_iCounters_fewestSteps} (t_self : ∀ (q0_ : Int32) (q1_ : Int32) (q2_ : Int32) (q3_ : Int32), tl (mP mI mA) (self_j (mI q0_) (mI q1_) (mI q2_) (mI q3_)) (self q0_ q1_ q2_ q3_)) {x2 : Int32} {x2_j : Int} (t_x2 : mI x2 = x2_j) {x3 : Int32} {x3_j : Int} (t_x3 : mI x3 = x3_j) {x4 : Int32} {x4_j : Int} (t_x4 : mI x4 = x4_j) {x5 : Int32} {x5_j : Int} (t_x5 : mI x5 = x5_j) : tl (mP mI mA) (iCounters_fewestSteps_b21_F N_j a1_j v_lying_j v_due_j k141_j self_j x2_j x3_j x4_j x5_j) (pCounters_fewestSteps_b21_F N a1 v_lying v_due k141 self x2 x3 x4 x5) := by
  subst t_N
  subst t_a1
  subst t_v_lying
  subst t_v_due
  subst t_x2
  subst t_x3
  subst t_x4
  subst t_x5
  unfold iCounters_fewestSteps_b21_F pCounters_fewestSteps_b21_F
  refine tl_ite (jc_le jlitI_12 (Eq.refl (mI x5))) ?_ ?_
  · exact (tl_e3 (Eq.refl (mI x2)) (Eq.refl (mI x3)) (Eq.refl (mI x4)) (t_k141 _ _ _))
  · refine tl_gd (jg_ib (Eq.refl (mI x5))) (fun _ => ?_)
    refine tl_gd (jg_ib (Eq.refl (mI x5))) (fun _ => ?_)
    refine tl_g (fun h1 => ?_)
    refine tl_g (fun h2 => ?_)
    refine tl_bd1 (t_pJMath_floorDiv (ja_sub (Eq.refl (mI x2)) (ja_sub (jrd (Eq.refl (mA v_due)) (jx (Eq.refl (mI x5)))) (jrd (Eq.refl (mA v_lying)) (jx (Eq.refl (mI x5)))) h1) h2) (jtab1 (jx (Eq.refl (mI x5))))) (fun rc4 => ?_)
    refine tl_g (fun h3 => ?_)
    refine tl_g (fun h4 => ?_)
    refine tl_g (fun h5 => ?_)
    refine tl_g (fun h6 => ?_)
    refine tl_bd1 (t_pCounters_cheaper (Eq.refl (mI x3)) (ja_sub (ja_add (ja_sub (jrd (Eq.refl (mA v_due)) (jx (Eq.refl (mI x5)))) (jrd (Eq.refl (mA v_lying)) (jx (Eq.refl (mI x5)))) h1) (ja_mul (jtab1 (jx (Eq.refl (mI x5)))) (Eq.refl (mI rc4)) h3) h4) (Eq.refl (mI x2)) h5) (Eq.refl (mI x4)) (ja_sub (ja_sub (ja_add (ja_sub (jrd (Eq.refl (mA v_due)) (jx (Eq.refl (mI x5)))) (jrd (Eq.refl (mA v_lying)) (jx (Eq.refl (mI x5)))) h1) (ja_mul (jtab1 (jx (Eq.refl (mI x5)))) (Eq.refl (mI rc4)) h3) h4) (Eq.refl (mI x2)) h5) jlitI_1 h6)) (fun rc5 => ?_)
    refine tl_g (fun h7 => ?_)
    refine tl_g (fun h8 => ?_)
    refine tl_bd1 (t_pCounters_cheaper (Eq.refl (mI x3)) (ja_add (ja_sub (ja_add (ja_sub (jrd (Eq.refl (mA v_due)) (jx (Eq.refl (mI x5)))) (jrd (Eq.refl (mA v_lying)) (jx (Eq.refl (mI x5)))) h1) (ja_mul (jtab1 (jx (Eq.refl (mI x5)))) (Eq.refl (mI rc4)) h3) h4) (Eq.refl (mI x2)) h5) (jtab1 (jx (Eq.refl (mI x5)))) h7) (Eq.refl (mI x4)) (ja_sub (ja_add (ja_sub (ja_add (ja_sub (jrd (Eq.refl (mA v_due)) (jx (Eq.refl (mI x5)))) (jrd (Eq.refl (mA v_lying)) (jx (Eq.refl (mI x5)))) h1) (ja_mul (jtab1 (jx (Eq.refl (mI x5)))) (Eq.refl (mI rc4)) h3) h4) (Eq.refl (mI x2)) h5) (jtab1 (jx (Eq.refl (mI x5)))) h7) jlitI_1 h8)) (fun rc6 => ?_)
    refine tl_g (fun h9 => ?_)
    refine tl_g (fun h10 => ?_)
    refine tl_g (fun h11 => ?_)
    refine tl_g (fun h12 => ?_)
    refine tl_g (fun h13 => ?_)
    refine tl_g (fun h14 => ?_)
    exact (tl_e4 (Eq.refl (mI rc4)) (ja_add (Eq.refl (mI rc5)) (ja_abs (Eq.refl (mI rc4)) h9) h10) (ja_add (Eq.refl (mI rc6)) (ja_abs (ja_add (Eq.refl (mI rc4)) jlitI_1 h11) h12) h13) (ja_add (Eq.refl (mI x5)) jlitI_1 h14) (t_self _ _ _ _))
theorem t_pCounters_fewestSteps_b21 {N N_j : Nat} (t_N : N = N_j) {a1 : Int32} {a1_j : Int} (t_a1 : mI a1 = a1_j) {v_lying : (Nat → Int32)} {v_lying_j : (Nat → Int)} (t_v_lying : mA v_lying = v_lying_j) {v_due : (Nat → Int32)} {v_due_j : (Nat → Int)} (t_v_due : mA v_due = v_due_j) {k141 : Int32 → Int32 → Int32 → Option R_pCounters_fewestSteps} {k141_j : Int → Int → Int → Option R_iCounters_fewestSteps} (t_k141 : ∀ (q0_ : Int32) (q1_ : Int32) (q2_ : Int32), tl (mP mI mA) (k141_j (mI q0_) (mI q1_) (mI q2_)) (k141 q0_ q1_ q2_)) {n n_j : Nat} (t_n : n = n_j) {w0_ : Int32} {w0__j : Int} (t_w0_ : mI w0_ = w0__j) {w1_ : Int32} {w1__j : Int} (t_w1_ : mI w1_ = w1__j) {w2_ : Int32} {w2__j : Int} (t_w2_ : mI w2_ = w2__j) {w3_ : Int32} {w3__j : Int} (t_w3_ : mI w3_ = w3__j) : tl (mP mI mA) (iCounters_fewestSteps_b21 N_j a1_j v_lying_j v_due_j k141_j n_j w0__j w1__j w2__j w3__j) (pCounters_fewestSteps_b21 N a1 v_lying v_due k141 n w0_ w1_ w2_ w3_) := by
  subst t_N
  subst t_a1
  subst t_v_lying
  subst t_v_due
  subst t_n
  subst t_w0_
  subst t_w1_
  subst t_w2_
  subst t_w3_
  exact tl_zlp4 (fun s2 s hs w0_ w1_ w2_ w3_ => t_pCounters_fewestSteps_b21_F (Eq.refl N) (Eq.refl (mI a1)) (Eq.refl (mA v_lying)) (Eq.refl (mA v_due)) t_k141 hs (Eq.refl (mI w0_)) (Eq.refl (mI w1_)) (Eq.refl (mI w2_)) (Eq.refl (mI w3_))) n w0_ w1_ w2_ w3_
theorem t_pCounters_fewestSteps_b141 {N N_j : Nat} (t_N : N = N_j) {a1 : Int32} {a1_j : Int} (t_a1 : mI a1 = a1_j) {v_lying : (Nat → Int32)} {v_lying_j : (Nat → Int)} (t_v_lying : mA v_lying = v_lying_j) {x2 : Int32} {x2_j : Int} (t_x2 : mI x2 = x2_j) {x3 : Int32} {x3_j : Int} (t_x3 : mI x3 = x3_j) {x4 : Int32} {x4_j : Int} (t_x4 : mI x4 = x4_j) {v_due : (Nat → Int32)} {v_due_j : (Nat → Int)} (t_v_due : mA v_due = v_due_j) : tl (mP mI mA) (iCounters_fewestSteps_b141 N_j a1_j v_lying_j x2_j x3_j x4_j v_due_j) (pCounters_fewestSteps_b141 N a1 v_lying x2 x3 x4 v_due) := by
  subst t_N
  subst t_a1
  subst t_v_lying
  subst t_x2
  subst t_x3
  subst t_x4
  subst t_v_due
  unfold iCounters_fewestSteps_b141 pCounters_fewestSteps_b141
  refine tl_g (fun h1 => ?_)
  refine tl_g (fun h2 => ?_)
  refine tl_g (fun h3 => ?_)
  refine tl_bd1 (t_pCounters_cheaper (Eq.refl (mI x3)) (ja_sub (ja_sub (jrd (Eq.refl (mA v_due)) (jx jlitI_12)) (jrd (Eq.refl (mA v_lying)) (jx jlitI_12)) h1) (Eq.refl (mI x2)) h2) (Eq.refl (mI x4)) (ja_sub (ja_sub (ja_sub (jrd (Eq.refl (mA v_due)) (jx jlitI_12)) (jrd (Eq.refl (mA v_lying)) (jx jlitI_12)) h1) (Eq.refl (mI x2)) h2) jlitI_1 h3)) (fun rc7 => ?_)
  exact (tl_some (jp2 (Eq.refl (mI rc7)) (Eq.refl (mA v_due))))
theorem t_pCounters_fewestSteps {N N_j : Nat} (t_N : N = N_j) {a1 : Int32} {a1_j : Int} (t_a1 : mI a1 = a1_j) {v_due : (Nat → Int32)} {v_due_j : (Nat → Int)} (t_v_due : mA v_due = v_due_j) {v_lying : (Nat → Int32)} {v_lying_j : (Nat → Int)} (t_v_lying : mA v_lying = v_lying_j) : tl (mP mI mA) (iCounters_fewestSteps N_j a1_j v_due_j v_lying_j) (pCounters_fewestSteps N a1 v_due v_lying) := by
  subst t_N
  subst t_a1
  subst t_v_due
  subst t_v_lying
  unfold iCounters_fewestSteps pCounters_fewestSteps
  refine tl_bd2 (t_pCounters_tellPlain (Eq.refl N) (Eq.refl (mI a1)) (Eq.refl (mA v_due))) (fun rc1 v_due_c1 => ?_)
  refine tl_ite (jc_eq (Eq.refl (mI rc1)) jlitI_0) ?_ ?_
  · exact (tl_some (jp2 jlitI_m1 (Eq.refl (mA v_due_c1))))
  · exact (t_pCounters_fewestSteps_b21 (Eq.refl N) (Eq.refl (mI a1)) (Eq.refl (mA v_lying)) (Eq.refl (mA v_due_c1)) (fun x2_k1 x3_k2 x4_k3 => by exact (t_pCounters_fewestSteps_b141 (Eq.refl N) (Eq.refl (mI a1)) (Eq.refl (mA v_lying)) (Eq.refl (mI x2_k1)) (Eq.refl (mI x3_k2)) (Eq.refl (mI x4_k3)) (Eq.refl (mA v_due_c1)))) (Eq.refl N) jlitI_0 jlitI_0 jlitI_1000000000 jlitI_0)
theorem t_pMatcher_begin_b2_F {N N_j : Nat} (t_N : N = N_j) {v_columnPrices : (Nat → Int64)} {v_columnPrices_j : (Nat → Int)} (t_v_columnPrices : mL v_columnPrices = v_columnPrices_j) {v_rowOf : (Nat → Int32)} {v_rowOf_j : (Nat → Int)} (t_v_rowOf : mA v_rowOf = v_rowOf_j) {v_rowPrices : (Nat → Int64)} {v_rowPrices_j : (Nat → Int)} (t_v_rowPrices : mL v_rowPrices = v_rowPrices_j) {k24 : (Nat → Nat → Int64) → Option R_pMatcher_begin} {k24_j : (Nat → Nat → Int) → Option R_iMatcher_begin} (t_k24 : ∀ (q0_ : (Nat → Nat → Int64)), tl (mP mL (mP mLL (mP mA mL))) (k24_j (mLL q0_)) (k24 q0_)) {self : Int32 → (Nat → Nat → Int64) → Option R_pMatcher_begin} {self_j : Int → (Nat → Nat → Int) → Option R_iMatcher_begin} (t_self : ∀ (q0_ : Int32) (q1_ : (Nat → Nat → Int64)), tl (mP mL (mP mLL (mP mA mL))) (self_j (mI q0_) (mLL q1_)) (self q0_ q1_)) {x1 : Int32} {x1_j : Int} (t_x1 : mI x1 = x1_j) {v_costs : (Nat → Nat → Int64)} {v_costs_j : (Nat → Nat → Int)} (t_v_costs : mLL v_costs = v_costs_j) : tl (mP mL (mP mLL (mP mA mL))) (iMatcher_begin_b2_F N_j v_columnPrices_j v_rowOf_j v_rowPrices_j k24_j self_j x1_j v_costs_j) (pMatcher_begin_b2_F N v_columnPrices v_rowOf v_rowPrices k24 self x1 v_costs) := by
  subst t_N
  subst t_v_columnPrices
  subst t_v_rowOf
  subst t_v_rowPrices
  subst t_x1
  subst t_v_costs
  unfold iMatcher_begin_b2_F pMatcher_begin_b2_F
  refine tl_ite (jc_lt jlitI_10 (Eq.refl (mI x1))) ?_ ?_
  · exact (tl_e1 (Eq.refl (mLL v_costs)) (t_k24 _))
  · refine tl_gd (jg_ib (Eq.refl (mI x1))) (fun _ => ?_)
    refine tl_g (fun h1 => ?_)
    exact (tl_e2 (ja_add (Eq.refl (mI x1)) jlitI_1 h1) (jupFLL (Eq.refl (mLL v_costs)) (jx (Eq.refl (mI x1))) (jkL jlitJ_0)) (t_self _ _))
theorem t_pMatcher_begin_b2 {N N_j : Nat} (t_N : N = N_j) {v_columnPrices : (Nat → Int64)} {v_columnPrices_j : (Nat → Int)} (t_v_columnPrices : mL v_columnPrices = v_columnPrices_j) {v_rowOf : (Nat → Int32)} {v_rowOf_j : (Nat → Int)} (t_v_rowOf : mA v_rowOf = v_rowOf_j) {v_rowPrices : (Nat → Int64)} {v_rowPrices_j : (Nat → Int)} (t_v_rowPrices : mL v_rowPrices = v_rowPrices_j) {k24 : (Nat → Nat → Int64) → Option R_pMatcher_begin} {k24_j : (Nat → Nat → Int) → Option R_iMatcher_begin} (t_k24 : ∀ (q0_ : (Nat → Nat → Int64)), tl (mP mL (mP mLL (mP mA mL))) (k24_j (mLL q0_)) (k24 q0_)) {n n_j : Nat} (t_n : n = n_j) {w0_ : Int32} {w0__j : Int} (t_w0_ : mI w0_ = w0__j) {w1_ : (Nat → Nat → Int64)} {w1__j : (Nat → Nat → Int)} (t_w1_ : mLL w1_ = w1__j) : tl (mP mL (mP mLL (mP mA mL))) (iMatcher_begin_b2 N_j v_columnPrices_j v_rowOf_j v_rowPrices_j k24_j n_j w0__j w1__j) (pMatcher_begin_b2 N v_columnPrices v_rowOf v_rowPrices k24 n w0_ w1_) := by
  subst t_N
  subst t_v_columnPrices
  subst t_v_rowOf
  subst t_v_rowPrices
  subst t_n
  subst t_w0_
  subst t_w1_
  exact tl_zlp2 (fun s2 s hs w0_ w1_ => t_pMatcher_begin_b2_F (Eq.refl N) (Eq.refl (mL v_columnPrices)) (Eq.refl (mA v_rowOf)) (Eq.refl (mL v_rowPrices)) t_k24 hs (Eq.refl (mI w0_)) (Eq.refl (mLL w1_))) n w0_ w1_
theorem t_pMatcher_begin_b24 {N N_j : Nat} (t_N : N = N_j) {v_columnPrices : (Nat → Int64)} {v_columnPrices_j : (Nat → Int)} (t_v_columnPrices : mL v_columnPrices = v_columnPrices_j) {v_costs : (Nat → Nat → Int64)} {v_costs_j : (Nat → Nat → Int)} (t_v_costs : mLL v_costs = v_costs_j) {v_rowOf : (Nat → Int32)} {v_rowOf_j : (Nat → Int)} (t_v_rowOf : mA v_rowOf = v_rowOf_j) {v_rowPrices : (Nat → Int64)} {v_rowPrices_j : (Nat → Int)} (t_v_rowPrices : mL v_rowPrices = v_rowPrices_j) : tl (mP mL (mP mLL (mP mA mL))) (iMatcher_begin_b24 N_j v_columnPrices_j v_costs_j v_rowOf_j v_rowPrices_j) (pMatcher_begin_b24 N v_columnPrices v_costs v_rowOf v_rowPrices) := by
  subst t_N
  subst t_v_columnPrices
  subst t_v_costs
  subst t_v_rowOf
  subst t_v_rowPrices
  unfold iMatcher_begin_b24 pMatcher_begin_b24
  exact (tl_some (jp2 (jkL jlitJ_0) (jp2 (Eq.refl (mLL v_costs)) (jp2 (jkA jlitI_0) (jkL jlitJ_0)))))
theorem t_pMatcher_begin {N N_j : Nat} (t_N : N = N_j) {v_columnPrices : (Nat → Int64)} {v_columnPrices_j : (Nat → Int)} (t_v_columnPrices : mL v_columnPrices = v_columnPrices_j) {v_costs : (Nat → Nat → Int64)} {v_costs_j : (Nat → Nat → Int)} (t_v_costs : mLL v_costs = v_costs_j) {v_rowOf : (Nat → Int32)} {v_rowOf_j : (Nat → Int)} (t_v_rowOf : mA v_rowOf = v_rowOf_j) {v_rowPrices : (Nat → Int64)} {v_rowPrices_j : (Nat → Int)} (t_v_rowPrices : mL v_rowPrices = v_rowPrices_j) : tl (mP mL (mP mLL (mP mA mL))) (iMatcher_begin N_j v_columnPrices_j v_costs_j v_rowOf_j v_rowPrices_j) (pMatcher_begin N v_columnPrices v_costs v_rowOf v_rowPrices) := by
  subst t_N
  subst t_v_columnPrices
  subst t_v_costs
  subst t_v_rowOf
  subst t_v_rowPrices
  unfold iMatcher_begin pMatcher_begin
  exact (t_pMatcher_begin_b2 (Eq.refl N) (Eq.refl (mL v_columnPrices)) (Eq.refl (mA v_rowOf)) (Eq.refl (mL v_rowPrices)) (fun v_costs_k1 => by exact (t_pMatcher_begin_b24 (Eq.refl N) (Eq.refl (mL v_columnPrices)) (Eq.refl (mLL v_costs_k1)) (Eq.refl (mA v_rowOf)) (Eq.refl (mL v_rowPrices)))) (Eq.refl N) jlitI_0 (Eq.refl (mLL v_costs)))
theorem t_pMatcher_allow_b27_F {N N_j : Nat} (t_N : N = N_j) {a1 : Int32} {a1_j : Int} (t_a1 : mI a1 = a1_j) {a2 : Int32} {a2_j : Int} (t_a2 : mI a2 = a2_j) {a3 : Int32} {a3_j : Int} (t_a3 : mI a3 = a3_j) {v_costs : (Nat → Nat → Int64)} {v_costs_j : (Nat → Nat → Int)} (t_v_costs : mLL v_costs = v_costs_j) {self : Int64 → Int32 → Option R_pMatcher_allow} {self_j : Int → Int → Option (Nat → Nat → Int)} (t_self : ∀ (q0_ : Int64) (q1_ : Int32), tl (mLL) (self_j (mJ q0_) (mI q1_)) (self q0_ q1_)) {x4 : Int64} {x4_j : Int} (t_x4 : mJ x4 = x4_j) {x6 : Int32} {x6_j : Int} (t_x6 : mI x6 = x6_j) : tl (mLL) (iMatcher_allow_b27_F N_j a1_j a2_j a3_j v_costs_j self_j x4_j x6_j) (pMatcher_allow_b27_F N a1 a2 a3 v_costs self x4 x6) := by
  subst t_N
  subst t_a1
  subst t_a2
  subst t_a3
  subst t_v_costs
  subst t_x4
  subst t_x6
  unfold iMatcher_allow_b27_F pMatcher_allow_b27_F
  refine tl_ite (jc_le jlitI_10 (Eq.refl (mI x6))) ?_ ?_
  · refine tl_g (fun h1 => ?_)
    refine tl_gd (jg_ib (ja_add (Eq.refl (mI a1)) jlitI_1 h1)) (fun _ => ?_)
    refine tl_g (fun h2 => ?_)
    refine tl_gd (jg_ib (ja_add (Eq.refl (mI a2)) jlitI_1 h2)) (fun _ => ?_)
    refine tl_g (fun h3 => ?_)
    refine tl_g (fun h4 => ?_)
    refine tl_g (fun h5 => ?_)
    exact (tl_some (jupG (Eq.refl (mLL v_costs)) (jx (ja_add (Eq.refl (mI a1)) jlitI_1 h1)) (jx (ja_add (Eq.refl (mI a2)) jlitI_1 h2)) (jL_add (jL_sub (jL_mul (ja_i2l (Eq.refl (mI a3))) jlitJ_25937424601 h3) jlitJ_129738997854202 h4) (Eq.refl (mJ x4)) h5)))
  · refine tl_g (fun h6 => ?_)
    refine tl_g (fun h7 => ?_)
    exact (tl_e2 (jL_mul (Eq.refl (mJ x4)) jlitJ_11 h6) (ja_add (Eq.refl (mI x6)) jlitI_1 h7) (t_self _ _))
theorem t_pMatcher_allow_b27 {N N_j : Nat} (t_N : N = N_j) {a1 : Int32} {a1_j : Int} (t_a1 : mI a1 = a1_j) {a2 : Int32} {a2_j : Int} (t_a2 : mI a2 = a2_j) {a3 : Int32} {a3_j : Int} (t_a3 : mI a3 = a3_j) {v_costs : (Nat → Nat → Int64)} {v_costs_j : (Nat → Nat → Int)} (t_v_costs : mLL v_costs = v_costs_j) {n n_j : Nat} (t_n : n = n_j) {w0_ : Int64} {w0__j : Int} (t_w0_ : mJ w0_ = w0__j) {w1_ : Int32} {w1__j : Int} (t_w1_ : mI w1_ = w1__j) : tl (mLL) (iMatcher_allow_b27 N_j a1_j a2_j a3_j v_costs_j n_j w0__j w1__j) (pMatcher_allow_b27 N a1 a2 a3 v_costs n w0_ w1_) := by
  subst t_N
  subst t_a1
  subst t_a2
  subst t_a3
  subst t_v_costs
  subst t_n
  subst t_w0_
  subst t_w1_
  exact tl_zlp2 (fun s2 s hs w0_ w1_ => t_pMatcher_allow_b27_F (Eq.refl N) (Eq.refl (mI a1)) (Eq.refl (mI a2)) (Eq.refl (mI a3)) (Eq.refl (mLL v_costs)) hs (Eq.refl (mJ w0_)) (Eq.refl (mI w1_))) n w0_ w1_
theorem t_pMatcher_allow {N N_j : Nat} (t_N : N = N_j) {a1 : Int32} {a1_j : Int} (t_a1 : mI a1 = a1_j) {a2 : Int32} {a2_j : Int} (t_a2 : mI a2 = a2_j) {a3 : Int32} {a3_j : Int} (t_a3 : mI a3 = a3_j) {v_costs : (Nat → Nat → Int64)} {v_costs_j : (Nat → Nat → Int)} (t_v_costs : mLL v_costs = v_costs_j) : tl (mLL) (iMatcher_allow N_j a1_j a2_j a3_j v_costs_j) (pMatcher_allow N a1 a2 a3 v_costs) := by
  subst t_N
  subst t_a1
  subst t_a2
  subst t_a3
  subst t_v_costs
  unfold iMatcher_allow pMatcher_allow
  refine tl_bd1 (t_pK_isStick (Eq.refl (mI a1))) (fun rc1 => ?_)
  refine tl_ite (jc_eq (Eq.refl (mI rc1)) jlitI_0) ?_ ?_
  · exact (tl_some (Eq.refl (mLL v_costs)))
  · refine tl_bd1 (t_pK_isStick (Eq.refl (mI a2))) (fun rc2 => ?_)
    refine tl_ite (jc_eq (Eq.refl (mI rc2)) jlitI_0) ?_ ?_
    · exact (tl_some (Eq.refl (mLL v_costs)))
    · refine tl_g (fun h1 => ?_)
      refine tl_g (fun h2 => ?_)
      exact (t_pMatcher_allow_b27 (Eq.refl N) (Eq.refl (mI a1)) (Eq.refl (mI a2)) (Eq.refl (mI a3)) (Eq.refl (mLL v_costs)) (Eq.refl N) (ja_i2l (ja_sub (Eq.refl (mI a2)) jlitI_10 h1)) (ja_add (Eq.refl (mI a1)) jlitI_1 h2))
theorem t_pMatcher_lookFrom_b90 {N N_j : Nat} (t_N : N = N_j) {a1 : Int32} {a1_j : Int} (t_a1 : mI a1 = a1_j) {v_columnPrices : (Nat → Int64)} {v_columnPrices_j : (Nat → Int)} (t_v_columnPrices : mL v_columnPrices = v_columnPrices_j) {v_costs : (Nat → Nat → Int64)} {v_costs_j : (Nat → Nat → Int)} (t_v_costs : mLL v_costs = v_costs_j) {v_isReached : (Nat → Int32)} {v_isReached_j : (Nat → Int)} (t_v_isReached : mA v_isReached = v_isReached_j) {v_rowOf : (Nat → Int32)} {v_rowOf_j : (Nat → Int)} (t_v_rowOf : mA v_rowOf = v_rowOf_j) {v_rowPrices : (Nat → Int64)} {v_rowPrices_j : (Nat → Int)} (t_v_rowPrices : mL v_rowPrices = v_rowPrices_j) {self : Int32 → Int64 → Int32 → (Nat → Int32) → (Nat → Int64) → Option R_pMatcher_lookFrom} {self_j : Int → Int → Int → (Nat → Int) → (Nat → Int) → Option R_iMatcher_lookFrom} (t_self : ∀ (q0_ : Int32) (q1_ : Int64) (q2_ : Int32) (q3_ : (Nat → Int32)) (q4_ : (Nat → Int64)), tl (mP mI (mP mA mL)) (self_j (mI q0_) (mJ q1_) (mI q2_) (mA q3_) (mL q4_)) (self q0_ q1_ q2_ q3_ q4_)) {x2 : Int32} {x2_j : Int} (t_x2 : mI x2 = x2_j) {x3 : Int32} {x3_j : Int} (t_x3 : mI x3 = x3_j) {x4 : Int64} {x4_j : Int} (t_x4 : mJ x4 = x4_j) {x6 : Int32} {x6_j : Int} (t_x6 : mI x6 = x6_j) {v_cameFrom : (Nat → Int32)} {v_cameFrom_j : (Nat → Int)} (t_v_cameFrom : mA v_cameFrom = v_cameFrom_j) {v_gaps : (Nat → Int64)} {v_gaps_j : (Nat → Int)} (t_v_gaps : mL v_gaps = v_gaps_j) : tl (mP mI (mP mA mL)) (iMatcher_lookFrom_b90 N_j a1_j v_columnPrices_j v_costs_j v_isReached_j v_rowOf_j v_rowPrices_j self_j x2_j x3_j x4_j x6_j v_cameFrom_j v_gaps_j) (pMatcher_lookFrom_b90 N a1 v_columnPrices v_costs v_isReached v_rowOf v_rowPrices self x2 x3 x4 x6 v_cameFrom v_gaps) := by
  subst t_N
  subst t_a1
  subst t_v_columnPrices
  subst t_v_costs
  subst t_v_isReached
  subst t_v_rowOf
  subst t_v_rowPrices
  subst t_x2
  subst t_x3
  subst t_x4
  subst t_x6
  subst t_v_cameFrom
  subst t_v_gaps
  unfold iMatcher_lookFrom_b90 pMatcher_lookFrom_b90
  refine tl_gd (jg_ib (Eq.refl (mI x6))) (fun _ => ?_)
  refine tl_ite (jk_ge (jrdL (Eq.refl (mL v_gaps)) (jx (Eq.refl (mI x6)))) (Eq.refl (mJ x4))) ?_ ?_
  · refine tl_g (fun h1 => ?_)
    exact (tl_e5 (Eq.refl (mI x3)) (Eq.refl (mJ x4)) (ja_add (Eq.refl (mI x6)) jlitI_1 h1) (Eq.refl (mA v_cameFrom)) (Eq.refl (mL v_gaps)) (t_self _ _ _ _ _))
  · refine tl_g (fun h2 => ?_)
    exact (tl_e5 (Eq.refl (mI x6)) (jrdL (Eq.refl (mL v_gaps)) (jx (Eq.refl (mI x6)))) (ja_add (Eq.refl (mI x6)) jlitI_1 h2) (Eq.refl (mA v_cameFrom)) (Eq.refl (mL v_gaps)) (t_self _ _ _ _ _))
theorem t_pMatcher_lookFrom_b17_F {N N_j : Nat} (t_N : N = N_j) {a1 : Int32} {a1_j : Int} (t_a1 : mI a1 = a1_j) {v_columnPrices : (Nat → Int64)} {v_columnPrices_j : (Nat → Int)} (t_v_columnPrices : mL v_columnPrices = v_columnPrices_j) {v_costs : (Nat → Nat → Int64)} {v_costs_j : (Nat → Nat → Int)} (t_v_costs : mLL v_costs = v_costs_j) {v_isReached : (Nat → Int32)} {v_isReached_j : (Nat → Int)} (t_v_isReached : mA v_isReached = v_isReached_j) {v_rowOf : (Nat → Int32)} {v_rowOf_j : (Nat → Int)} (t_v_rowOf : mA v_rowOf = v_rowOf_j) {v_rowPrices : (Nat → Int64)} {v_rowPrices_j : (Nat → Int)} (t_v_rowPrices : mL v_rowPrices = v_rowPrices_j) {x2 : Int32} {x2_j : Int} (t_x2 : mI x2 = x2_j) {self : Int32 → Int64 → Int32 → (Nat → Int32) → (Nat → Int64) → Option R_pMatcher_lookFrom} {self_j : Int → Int → Int → (Nat → Int) → (Nat → Int) → Option R_iMatcher_lookFrom} (t_self : ∀ (q0_ : Int32) (q1_ : Int64) (q2_ : Int32) (q3_ : (Nat → Int32)) (q4_ : (Nat → Int64)), tl (mP mI (mP mA mL)) (self_j (mI q0_) (mJ q1_) (mI q2_) (mA q3_) (mL q4_)) (self q0_ q1_ q2_ q3_ q4_)) {x3 : Int32} {x3_j : Int} (t_x3 : mI x3 = x3_j) {x4 : Int64} {x4_j : Int} (t_x4 : mJ x4 = x4_j) {x6 : Int32} {x6_j : Int} (t_x6 : mI x6 = x6_j) {v_cameFrom : (Nat → Int32)} {v_cameFrom_j : (Nat → Int)} (t_v_cameFrom : mA v_cameFrom = v_cameFrom_j) {v_gaps : (Nat → Int64)} {v_gaps_j : (Nat → Int)} (t_v_gaps : mL v_gaps = v_gaps_j) : tl (mP mI (mP mA mL)) (iMatcher_lookFrom_b17_F N_j a1_j v_columnPrices_j v_costs_j v_isReached_j v_rowOf_j v_rowPrices_j x2_j self_j x3_j x4_j x6_j v_cameFrom_j v_gaps_j) (pMatcher_lookFrom_b17_F N a1 v_columnPrices v_costs v_isReached v_rowOf v_rowPrices x2 self x3 x4 x6 v_cameFrom v_gaps) := by
  subst t_N
  subst t_a1
  subst t_v_columnPrices
  subst t_v_costs
  subst t_v_isReached
  subst t_v_rowOf
  subst t_v_rowPrices
  subst t_x2
  subst t_x3
  subst t_x4
  subst t_x6
  subst t_v_cameFrom
  subst t_v_gaps
  unfold iMatcher_lookFrom_b17_F pMatcher_lookFrom_b17_F
  refine tl_ite (jc_lt jlitI_20 (Eq.refl (mI x6))) ?_ ?_
  · exact (tl_some (jp2 (Eq.refl (mI x3)) (jp2 (Eq.refl (mA v_cameFrom)) (Eq.refl (mL v_gaps)))))
  · refine tl_gd (jg_ib (Eq.refl (mI x6))) (fun _ => ?_)
    refine tl_ite (jc_eq (jrd (Eq.refl (mA v_isReached)) (jx (Eq.refl (mI x6)))) jlitI_0) ?_ ?_
    · refine tl_gd (jg_ib (Eq.refl (mI x2))) (fun _ => ?_)
      refine tl_g (fun h1 => ?_)
      refine tl_g (fun h2 => ?_)
      refine tl_ite (jk_ge (jL_sub (jL_sub (jrdLL (Eq.refl (mLL v_costs)) (jx (Eq.refl (mI x2))) (jx (Eq.refl (mI x6)))) (jrdL (Eq.refl (mL v_rowPrices)) (jx (Eq.refl (mI x2)))) h1) (jrdL (Eq.refl (mL v_columnPrices)) (jx (Eq.refl (mI x6)))) h2) (jrdL (Eq.refl (mL v_gaps)) (jx (Eq.refl (mI x6))))) ?_ ?_
      · exact (t_pMatcher_lookFrom_b90 (Eq.refl N) (Eq.refl (mI a1)) (Eq.refl (mL v_columnPrices)) (Eq.refl (mLL v_costs)) (Eq.refl (mA v_isReached)) (Eq.refl (mA v_rowOf)) (Eq.refl (mL v_rowPrices)) t_self (Eq.refl (mI x2)) (Eq.refl (mI x3)) (Eq.refl (mJ x4)) (Eq.refl (mI x6)) (Eq.refl (mA v_cameFrom)) (Eq.refl (mL v_gaps)))
      · exact (t_pMatcher_lookFrom_b90 (Eq.refl N) (Eq.refl (mI a1)) (Eq.refl (mL v_columnPrices)) (Eq.refl (mLL v_costs)) (Eq.refl (mA v_isReached)) (Eq.refl (mA v_rowOf)) (Eq.refl (mL v_rowPrices)) t_self (Eq.refl (mI x2)) (Eq.refl (mI x3)) (Eq.refl (mJ x4)) (Eq.refl (mI x6)) (jupA (Eq.refl (mA v_cameFrom)) (jx (Eq.refl (mI x6))) (Eq.refl (mI a1))) (jupL (Eq.refl (mL v_gaps)) (jx (Eq.refl (mI x6))) (jL_sub (jL_sub (jrdLL (Eq.refl (mLL v_costs)) (jx (Eq.refl (mI x2))) (jx (Eq.refl (mI x6)))) (jrdL (Eq.refl (mL v_rowPrices)) (jx (Eq.refl (mI x2)))) h1) (jrdL (Eq.refl (mL v_columnPrices)) (jx (Eq.refl (mI x6)))) h2)))
    · refine tl_g (fun h3 => ?_)
      exact (tl_e5 (Eq.refl (mI x3)) (Eq.refl (mJ x4)) (ja_add (Eq.refl (mI x6)) jlitI_1 h3) (Eq.refl (mA v_cameFrom)) (Eq.refl (mL v_gaps)) (t_self _ _ _ _ _))
theorem t_pMatcher_lookFrom_b17 {N N_j : Nat} (t_N : N = N_j) {a1 : Int32} {a1_j : Int} (t_a1 : mI a1 = a1_j) {v_columnPrices : (Nat → Int64)} {v_columnPrices_j : (Nat → Int)} (t_v_columnPrices : mL v_columnPrices = v_columnPrices_j) {v_costs : (Nat → Nat → Int64)} {v_costs_j : (Nat → Nat → Int)} (t_v_costs : mLL v_costs = v_costs_j) {v_isReached : (Nat → Int32)} {v_isReached_j : (Nat → Int)} (t_v_isReached : mA v_isReached = v_isReached_j) {v_rowOf : (Nat → Int32)} {v_rowOf_j : (Nat → Int)} (t_v_rowOf : mA v_rowOf = v_rowOf_j) {v_rowPrices : (Nat → Int64)} {v_rowPrices_j : (Nat → Int)} (t_v_rowPrices : mL v_rowPrices = v_rowPrices_j) {x2 : Int32} {x2_j : Int} (t_x2 : mI x2 = x2_j) {n n_j : Nat} (t_n : n = n_j) {w0_ : Int32} {w0__j : Int} (t_w0_ : mI w0_ = w0__j) {w1_ : Int64} {w1__j : Int} (t_w1_ : mJ w1_ = w1__j) {w2_ : Int32} {w2__j : Int} (t_w2_ : mI w2_ = w2__j) {w3_ : (Nat → Int32)} {w3__j : (Nat → Int)} (t_w3_ : mA w3_ = w3__j) {w4_ : (Nat → Int64)} {w4__j : (Nat → Int)} (t_w4_ : mL w4_ = w4__j) : tl (mP mI (mP mA mL)) (iMatcher_lookFrom_b17 N_j a1_j v_columnPrices_j v_costs_j v_isReached_j v_rowOf_j v_rowPrices_j x2_j n_j w0__j w1__j w2__j w3__j w4__j) (pMatcher_lookFrom_b17 N a1 v_columnPrices v_costs v_isReached v_rowOf v_rowPrices x2 n w0_ w1_ w2_ w3_ w4_) := by
  subst t_N
  subst t_a1
  subst t_v_columnPrices
  subst t_v_costs
  subst t_v_isReached
  subst t_v_rowOf
  subst t_v_rowPrices
  subst t_x2
  subst t_n
  subst t_w0_
  subst t_w1_
  subst t_w2_
  subst t_w3_
  subst t_w4_
  exact tl_zlp5 (fun s2 s hs w0_ w1_ w2_ w3_ w4_ => t_pMatcher_lookFrom_b17_F (Eq.refl N) (Eq.refl (mI a1)) (Eq.refl (mL v_columnPrices)) (Eq.refl (mLL v_costs)) (Eq.refl (mA v_isReached)) (Eq.refl (mA v_rowOf)) (Eq.refl (mL v_rowPrices)) (Eq.refl (mI x2)) hs (Eq.refl (mI w0_)) (Eq.refl (mJ w1_)) (Eq.refl (mI w2_)) (Eq.refl (mA w3_)) (Eq.refl (mL w4_))) n w0_ w1_ w2_ w3_ w4_
theorem t_pMatcher_lookFrom {N N_j : Nat} (t_N : N = N_j) {a1 : Int32} {a1_j : Int} (t_a1 : mI a1 = a1_j) {v_cameFrom : (Nat → Int32)} {v_cameFrom_j : (Nat → Int)} (t_v_cameFrom : mA v_cameFrom = v_cameFrom_j) {v_columnPrices : (Nat → Int64)} {v_columnPrices_j : (Nat → Int)} (t_v_columnPrices : mL v_columnPrices = v_columnPrices_j) {v_costs : (Nat → Nat → Int64)} {v_costs_j : (Nat → Nat → Int)} (t_v_costs : mLL v_costs = v_costs_j) {v_gaps : (Nat → Int64)} {v_gaps_j : (Nat → Int)} (t_v_gaps : mL v_gaps = v_gaps_j) {v_isReached : (Nat → Int32)} {v_isReached_j : (Nat → Int)} (t_v_isReached : mA v_isReached = v_isReached_j) {v_rowOf : (Nat → Int32)} {v_rowOf_j : (Nat → Int)} (t_v_rowOf : mA v_rowOf = v_rowOf_j) {v_rowPrices : (Nat → Int64)} {v_rowPrices_j : (Nat → Int)} (t_v_rowPrices : mL v_rowPrices = v_rowPrices_j) : tl (mP mI (mP mA mL)) (iMatcher_lookFrom N_j a1_j v_cameFrom_j v_columnPrices_j v_costs_j v_gaps_j v_isReached_j v_rowOf_j v_rowPrices_j) (pMatcher_lookFrom N a1 v_cameFrom v_columnPrices v_costs v_gaps v_isReached v_rowOf v_rowPrices) := by
  subst t_N
  subst t_a1
  subst t_v_cameFrom
  subst t_v_columnPrices
  subst t_v_costs
  subst t_v_gaps
  subst t_v_isReached
  subst t_v_rowOf
  subst t_v_rowPrices
  unfold iMatcher_lookFrom pMatcher_lookFrom
  refine tl_gd (jg_ib (Eq.refl (mI a1))) (fun _ => ?_)
  exact (t_pMatcher_lookFrom_b17 (Eq.refl N) (Eq.refl (mI a1)) (Eq.refl (mL v_columnPrices)) (Eq.refl (mLL v_costs)) (Eq.refl (mA v_isReached)) (Eq.refl (mA v_rowOf)) (Eq.refl (mL v_rowPrices)) (jrd (Eq.refl (mA v_rowOf)) (jx (Eq.refl (mI a1)))) (Eq.refl N) jlitI_0 jlitJ_1152921504606846976 jlitI_1 (Eq.refl (mA v_cameFrom)) (Eq.refl (mL v_gaps)))
theorem t_pMatcher_shiftPrices_b2_F {N N_j : Nat} (t_N : N = N_j) {a1 : Int64} {a1_j : Int} (t_a1 : mJ a1 = a1_j) {v_isReached : (Nat → Int32)} {v_isReached_j : (Nat → Int)} (t_v_isReached : mA v_isReached = v_isReached_j) {v_rowOf : (Nat → Int32)} {v_rowOf_j : (Nat → Int)} (t_v_rowOf : mA v_rowOf = v_rowOf_j) {self : Int32 → (Nat → Int64) → (Nat → Int64) → (Nat → Int64) → Option R_pMatcher_shiftPrices} {self_j : Int → (Nat → Int) → (Nat → Int) → (Nat → Int) → Option R_iMatcher_shiftPrices} (t_self : ∀ (q0_ : Int32) (q1_ : (Nat → Int64)) (q2_ : (Nat → Int64)) (q3_ : (Nat → Int64)), tl (mP mL (mP mL mL)) (self_j (mI q0_) (mL q1_) (mL q2_) (mL q3_)) (self q0_ q1_ q2_ q3_)) {x3 : Int32} {x3_j : Int} (t_x3 : mI x3 = x3_j) {v_columnPrices : (Nat → Int64)} {v_columnPrices_j : (Nat → Int)} (t_v_columnPrices : mL v_columnPrices = v_columnPrices_j) {v_gaps : (Nat → Int64)} {v_gaps_j : (Nat → Int)} (t_v_gaps : mL v_gaps = v_gaps_j) {v_rowPrices : (Nat → Int64)} {v_rowPrices_j : (Nat → Int)} (t_v_rowPrices : mL v_rowPrices = v_rowPrices_j) : tl (mP mL (mP mL mL)) (iMatcher_shiftPrices_b2_F N_j a1_j v_isReached_j v_rowOf_j self_j x3_j v_columnPrices_j v_gaps_j v_rowPrices_j) (pMatcher_shiftPrices_b2_F N a1 v_isReached v_rowOf self x3 v_columnPrices v_gaps v_rowPrices) := by
  subst t_N
  subst t_a1
  subst t_v_isReached
  subst t_v_rowOf
  subst t_x3
  subst t_v_columnPrices
  subst t_v_gaps
  subst t_v_rowPrices
  unfold iMatcher_shiftPrices_b2_F pMatcher_shiftPrices_b2_F
  refine tl_ite (jc_lt jlitI_20 (Eq.refl (mI x3))) ?_ ?_
  · exact (tl_some (jp2 (Eq.refl (mL v_columnPrices)) (jp2 (Eq.refl (mL v_gaps)) (Eq.refl (mL v_rowPrices)))))
  · refine tl_gd (jg_ib (Eq.refl (mI x3))) (fun _ => ?_)
    refine tl_ite (jc_eq (jrd (Eq.refl (mA v_isReached)) (jx (Eq.refl (mI x3)))) jlitI_0) ?_ ?_
    · refine tl_g (fun h1 => ?_)
      refine tl_g (fun h2 => ?_)
      exact (tl_e4 (ja_add (Eq.refl (mI x3)) jlitI_1 h1) (Eq.refl (mL v_columnPrices)) (jupL (Eq.refl (mL v_gaps)) (jx (Eq.refl (mI x3))) (jL_sub (jrdL (Eq.refl (mL v_gaps)) (jx (Eq.refl (mI x3)))) (Eq.refl (mJ a1)) h2)) (Eq.refl (mL v_rowPrices)) (t_self _ _ _ _))
    · refine tl_gd (jg_ib (jrd (Eq.refl (mA v_rowOf)) (jx (Eq.refl (mI x3))))) (fun _ => ?_)
      refine tl_g (fun h3 => ?_)
      refine tl_g (fun h4 => ?_)
      refine tl_g (fun h5 => ?_)
      exact (tl_e4 (ja_add (Eq.refl (mI x3)) jlitI_1 h3) (jupL (Eq.refl (mL v_columnPrices)) (jx (Eq.refl (mI x3))) (jL_sub (jrdL (Eq.refl (mL v_columnPrices)) (jx (Eq.refl (mI x3)))) (Eq.refl (mJ a1)) h4)) (Eq.refl (mL v_gaps)) (jupL (Eq.refl (mL v_rowPrices)) (jx (jrd (Eq.refl (mA v_rowOf)) (jx (Eq.refl (mI x3))))) (jL_add (jrdL (Eq.refl (mL v_rowPrices)) (jx (jrd (Eq.refl (mA v_rowOf)) (jx (Eq.refl (mI x3)))))) (Eq.refl (mJ a1)) h5)) (t_self _ _ _ _))
theorem t_pMatcher_shiftPrices_b2 {N N_j : Nat} (t_N : N = N_j) {a1 : Int64} {a1_j : Int} (t_a1 : mJ a1 = a1_j) {v_isReached : (Nat → Int32)} {v_isReached_j : (Nat → Int)} (t_v_isReached : mA v_isReached = v_isReached_j) {v_rowOf : (Nat → Int32)} {v_rowOf_j : (Nat → Int)} (t_v_rowOf : mA v_rowOf = v_rowOf_j) {n n_j : Nat} (t_n : n = n_j) {w0_ : Int32} {w0__j : Int} (t_w0_ : mI w0_ = w0__j) {w1_ : (Nat → Int64)} {w1__j : (Nat → Int)} (t_w1_ : mL w1_ = w1__j) {w2_ : (Nat → Int64)} {w2__j : (Nat → Int)} (t_w2_ : mL w2_ = w2__j) {w3_ : (Nat → Int64)} {w3__j : (Nat → Int)} (t_w3_ : mL w3_ = w3__j) : tl (mP mL (mP mL mL)) (iMatcher_shiftPrices_b2 N_j a1_j v_isReached_j v_rowOf_j n_j w0__j w1__j w2__j w3__j) (pMatcher_shiftPrices_b2 N a1 v_isReached v_rowOf n w0_ w1_ w2_ w3_) := by
  subst t_N
  subst t_a1
  subst t_v_isReached
  subst t_v_rowOf
  subst t_n
  subst t_w0_
  subst t_w1_
  subst t_w2_
  subst t_w3_
  exact tl_zlp4 (fun s2 s hs w0_ w1_ w2_ w3_ => t_pMatcher_shiftPrices_b2_F (Eq.refl N) (Eq.refl (mJ a1)) (Eq.refl (mA v_isReached)) (Eq.refl (mA v_rowOf)) hs (Eq.refl (mI w0_)) (Eq.refl (mL w1_)) (Eq.refl (mL w2_)) (Eq.refl (mL w3_))) n w0_ w1_ w2_ w3_
theorem t_pMatcher_shiftPrices {N N_j : Nat} (t_N : N = N_j) {a1 : Int64} {a1_j : Int} (t_a1 : mJ a1 = a1_j) {v_columnPrices : (Nat → Int64)} {v_columnPrices_j : (Nat → Int)} (t_v_columnPrices : mL v_columnPrices = v_columnPrices_j) {v_gaps : (Nat → Int64)} {v_gaps_j : (Nat → Int)} (t_v_gaps : mL v_gaps = v_gaps_j) {v_isReached : (Nat → Int32)} {v_isReached_j : (Nat → Int)} (t_v_isReached : mA v_isReached = v_isReached_j) {v_rowOf : (Nat → Int32)} {v_rowOf_j : (Nat → Int)} (t_v_rowOf : mA v_rowOf = v_rowOf_j) {v_rowPrices : (Nat → Int64)} {v_rowPrices_j : (Nat → Int)} (t_v_rowPrices : mL v_rowPrices = v_rowPrices_j) : tl (mP mL (mP mL mL)) (iMatcher_shiftPrices N_j a1_j v_columnPrices_j v_gaps_j v_isReached_j v_rowOf_j v_rowPrices_j) (pMatcher_shiftPrices N a1 v_columnPrices v_gaps v_isReached v_rowOf v_rowPrices) := by
  subst t_N
  subst t_a1
  subst t_v_columnPrices
  subst t_v_gaps
  subst t_v_isReached
  subst t_v_rowOf
  subst t_v_rowPrices
  unfold iMatcher_shiftPrices pMatcher_shiftPrices
  exact (t_pMatcher_shiftPrices_b2 (Eq.refl N) (Eq.refl (mJ a1)) (Eq.refl (mA v_isReached)) (Eq.refl (mA v_rowOf)) (Eq.refl N) jlitI_0 (Eq.refl (mL v_columnPrices)) (Eq.refl (mL v_gaps)) (Eq.refl (mL v_rowPrices)))
theorem t_pMatcher_freeColumnFor_b12_F {N N_j : Nat} (t_N : N = N_j) {a1 : Int32} {a1_j : Int} (t_a1 : mI a1 = a1_j) {v_costs : (Nat → Nat → Int64)} {v_costs_j : (Nat → Nat → Int)} (t_v_costs : mLL v_costs = v_costs_j) {v_cameFrom : (Nat → Int32)} {v_cameFrom_j : (Nat → Int)} (t_v_cameFrom : mA v_cameFrom = v_cameFrom_j) {v_columnPrices : (Nat → Int64)} {v_columnPrices_j : (Nat → Int)} (t_v_columnPrices : mL v_columnPrices = v_columnPrices_j) {v_gaps : (Nat → Int64)} {v_gaps_j : (Nat → Int)} (t_v_gaps : mL v_gaps = v_gaps_j) {v_rowOf : (Nat → Int32)} {v_rowOf_j : (Nat → Int)} (t_v_rowOf : mA v_rowOf = v_rowOf_j) {v_rowPrices : (Nat → Int64)} {v_rowPrices_j : (Nat → Int)} (t_v_rowPrices : mL v_rowPrices = v_rowPrices_j) {k31 : (Nat → Int32) → Option R_pMatcher_freeColumnFor} {k31_j : (Nat → Int) → Option R_iMatcher_freeColumnFor} (t_k31 : ∀ (q0_ : (Nat → Int32)), tl (mP mI (mP mA (mP mL (mP mL (mP mA (mP mA mL)))))) (k31_j (mA q0_)) (k31 q0_)) {self : Int32 → (Nat → Int32) → Option R_pMatcher_freeColumnFor} {self_j : Int → (Nat → Int) → Option R_iMatcher_freeColumnFor} (t_self : ∀ (q0_ : Int32) (q1_ : (Nat → Int32)), tl (mP mI (mP mA (mP mL (mP mL (mP mA (mP mA mL)))))) (self_j (mI q0_) (mA q1_)) (self q0_ q1_)) {x2 : Int32} {x2_j : Int} (t_x2 : mI x2 = x2_j) {v_isReached : (Nat → Int32)} {v_isReached_j : (Nat → Int)} (t_v_isReached : mA v_isReached = v_isReached_j) : tl (mP mI (mP mA (mP mL (mP mL (mP mA (mP mA mL)))))) (iMatcher_freeColumnFor_b12_F N_j a1_j v_costs_j v_cameFrom_j v_columnPrices_j v_gaps_j v_rowOf_j v_rowPrices_j k31_j self_j x2_j v_isReached_j) (pMatcher_freeColumnFor_b12_F N a1 v_costs v_cameFrom v_columnPrices v_gaps v_rowOf v_rowPrices k31 self x2 v_isReached) := by
  subst t_N
  subst t_a1
  subst t_v_costs
  subst t_v_cameFrom
  subst t_v_columnPrices
  subst t_v_gaps
  subst t_v_rowOf
  subst t_v_rowPrices
  subst t_x2
  subst t_v_isReached
  unfold iMatcher_freeColumnFor_b12_F pMatcher_freeColumnFor_b12_F
  refine tl_ite (jc_lt jlitI_20 (Eq.refl (mI x2))) ?_ ?_
  · exact (tl_e1 (Eq.refl (mA v_isReached)) (t_k31 _))
  · refine tl_gd (jg_ib (Eq.refl (mI x2))) (fun _ => ?_)
    refine tl_g (fun h1 => ?_)
    exact (tl_e2 (ja_add (Eq.refl (mI x2)) jlitI_1 h1) (jupA (Eq.refl (mA v_isReached)) (jx (Eq.refl (mI x2))) jlitI_0) (t_self _ _))
theorem t_pMatcher_freeColumnFor_b12 {N N_j : Nat} (t_N : N = N_j) {a1 : Int32} {a1_j : Int} (t_a1 : mI a1 = a1_j) {v_costs : (Nat → Nat → Int64)} {v_costs_j : (Nat → Nat → Int)} (t_v_costs : mLL v_costs = v_costs_j) {v_cameFrom : (Nat → Int32)} {v_cameFrom_j : (Nat → Int)} (t_v_cameFrom : mA v_cameFrom = v_cameFrom_j) {v_columnPrices : (Nat → Int64)} {v_columnPrices_j : (Nat → Int)} (t_v_columnPrices : mL v_columnPrices = v_columnPrices_j) {v_gaps : (Nat → Int64)} {v_gaps_j : (Nat → Int)} (t_v_gaps : mL v_gaps = v_gaps_j) {v_rowOf : (Nat → Int32)} {v_rowOf_j : (Nat → Int)} (t_v_rowOf : mA v_rowOf = v_rowOf_j) {v_rowPrices : (Nat → Int64)} {v_rowPrices_j : (Nat → Int)} (t_v_rowPrices : mL v_rowPrices = v_rowPrices_j) {k31 : (Nat → Int32) → Option R_pMatcher_freeColumnFor} {k31_j : (Nat → Int) → Option R_iMatcher_freeColumnFor} (t_k31 : ∀ (q0_ : (Nat → Int32)), tl (mP mI (mP mA (mP mL (mP mL (mP mA (mP mA mL)))))) (k31_j (mA q0_)) (k31 q0_)) {n n_j : Nat} (t_n : n = n_j) {w0_ : Int32} {w0__j : Int} (t_w0_ : mI w0_ = w0__j) {w1_ : (Nat → Int32)} {w1__j : (Nat → Int)} (t_w1_ : mA w1_ = w1__j) : tl (mP mI (mP mA (mP mL (mP mL (mP mA (mP mA mL)))))) (iMatcher_freeColumnFor_b12 N_j a1_j v_costs_j v_cameFrom_j v_columnPrices_j v_gaps_j v_rowOf_j v_rowPrices_j k31_j n_j w0__j w1__j) (pMatcher_freeColumnFor_b12 N a1 v_costs v_cameFrom v_columnPrices v_gaps v_rowOf v_rowPrices k31 n w0_ w1_) := by
  subst t_N
  subst t_a1
  subst t_v_costs
  subst t_v_cameFrom
  subst t_v_columnPrices
  subst t_v_gaps
  subst t_v_rowOf
  subst t_v_rowPrices
  subst t_n
  subst t_w0_
  subst t_w1_
  exact tl_zlp2 (fun s2 s hs w0_ w1_ => t_pMatcher_freeColumnFor_b12_F (Eq.refl N) (Eq.refl (mI a1)) (Eq.refl (mLL v_costs)) (Eq.refl (mA v_cameFrom)) (Eq.refl (mL v_columnPrices)) (Eq.refl (mL v_gaps)) (Eq.refl (mA v_rowOf)) (Eq.refl (mL v_rowPrices)) t_k31 hs (Eq.refl (mI w0_)) (Eq.refl (mA w1_))) n w0_ w1_
theorem t_pMatcher_freeColumnFor_b42_F {N N_j : Nat} (t_N : N = N_j) {a1 : Int32} {a1_j : Int} (t_a1 : mI a1 = a1_j) {v_costs : (Nat → Nat → Int64)} {v_costs_j : (Nat → Nat → Int)} (t_v_costs : mLL v_costs = v_costs_j) {v_rowOf : (Nat → Int32)} {v_rowOf_j : (Nat → Int)} (t_v_rowOf : mA v_rowOf = v_rowOf_j) {self : Int32 → Int32 → (Nat → Int32) → (Nat → Int64) → (Nat → Int64) → (Nat → Int32) → (Nat → Int64) → Option R_pMatcher_freeColumnFor} {self_j : Int → Int → (Nat → Int) → (Nat → Int) → (Nat → Int) → (Nat → Int) → (Nat → Int) → Option R_iMatcher_freeColumnFor} (t_self : ∀ (q0_ : Int32) (q1_ : Int32) (q2_ : (Nat → Int32)) (q3_ : (Nat → Int64)) (q4_ : (Nat → Int64)) (q5_ : (Nat → Int32)) (q6_ : (Nat → Int64)), tl (mP mI (mP mA (mP mL (mP mL (mP mA (mP mA mL)))))) (self_j (mI q0_) (mI q1_) (mA q2_) (mL q3_) (mL q4_) (mA q5_) (mL q6_)) (self q0_ q1_ q2_ q3_ q4_ q5_ q6_)) {x2 : Int32} {x2_j : Int} (t_x2 : mI x2 = x2_j) {x3 : Int32} {x3_j : Int} (t_x3 : mI x3 = x3_j) {v_cameFrom : (Nat → Int32)} {v_cameFrom_j : (Nat → Int)} (t_v_cameFrom : mA v_cameFrom = v_cameFrom_j) {v_columnPrices : (Nat → Int64)} {v_columnPrices_j : (Nat → Int)} (t_v_columnPrices : mL v_columnPrices = v_columnPrices_j) {v_gaps : (Nat → Int64)} {v_gaps_j : (Nat → Int)} (t_v_gaps : mL v_gaps = v_gaps_j) {v_isReached : (Nat → Int32)} {v_isReached_j : (Nat → Int)} (t_v_isReached : mA v_isReached = v_isReached_j) {v_rowPrices : (Nat → Int64)} {v_rowPrices_j : (Nat → Int)} (t_v_rowPrices : mL v_rowPrices = v_rowPrices_j) : tl (mP mI (mP mA (mP mL (mP mL (mP mA (mP mA mL)))))) (iMatcher_freeColumnFor_b42_F N_j a1_j v_costs_j v_rowOf_j self_j x2_j x3_j v_cameFrom_j v_columnPrices_j v_gaps_j v_isReached_j v_rowPrices_j) (pMatcher_freeColumnFor_b42_F N a1 v_costs v_rowOf self x2 x3 v_cameFrom v_columnPrices v_gaps v_isReached v_rowPrices) := by
  subst t_N
  subst t_a1
  subst t_v_costs
  subst t_v_rowOf
  subst t_x2
  subst t_x3
  subst t_v_cameFrom
  subst t_v_columnPrices
  subst t_v_gaps
  subst t_v_isReached
  subst t_v_rowPrices
  unfold iMatcher_freeColumnFor_b42_F pMatcher_freeColumnFor_b42_F
  refine tl_ite (jc_lt jlitI_20 (Eq.refl (mI x3))) ?_ ?_
  · exact (tl_some (jp2 (Eq.refl (mI x2)) (jp2 (Eq.refl (mA v_cameFrom)) (jp2 (Eq.refl (mL v_columnPrices)) (jp2 (Eq.refl (mL v_gaps)) (jp2 (Eq.refl (mA v_isReached)) (jp2 (Eq.refl (mA v_rowOf)) (Eq.refl (mL v_rowPrices)))))))))
  · refine tl_gd (jg_ib (Eq.refl (mI x2))) (fun _ => ?_)
    refine tl_ite (jc_eq (jrd (Eq.refl (mA v_rowOf)) (jx (Eq.refl (mI x2)))) jlitI_0) ?_ ?_
    · exact (tl_some (jp2 (Eq.refl (mI x2)) (jp2 (Eq.refl (mA v_cameFrom)) (jp2 (Eq.refl (mL v_columnPrices)) (jp2 (Eq.refl (mL v_gaps)) (jp2 (Eq.refl (mA v_isReached)) (jp2 (Eq.refl (mA v_rowOf)) (Eq.refl (mL v_rowPrices)))))))))
    · refine tl_bd3 (t_pMatcher_lookFrom (Eq.refl N) (Eq.refl (mI x2)) (Eq.refl (mA v_cameFrom)) (Eq.refl (mL v_columnPrices)) (Eq.refl (mLL v_costs)) (Eq.refl (mL v_gaps)) (jupA (Eq.refl (mA v_isReached)) (jx (Eq.refl (mI x2))) jlitI_1) (Eq.refl (mA v_rowOf)) (Eq.refl (mL v_rowPrices))) (fun rc3 v_cameFrom_c3 v_gaps_c3 => ?_)
      refine tl_gd (jg_ib (Eq.refl (mI rc3))) (fun _ => ?_)
      refine tl_bd3 (t_pMatcher_shiftPrices (Eq.refl N) (jrdL (Eq.refl (mL v_gaps_c3)) (jx (Eq.refl (mI rc3)))) (Eq.refl (mL v_columnPrices)) (Eq.refl (mL v_gaps_c3)) (jupA (Eq.refl (mA v_isReached)) (jx (Eq.refl (mI x2))) jlitI_1) (Eq.refl (mA v_rowOf)) (Eq.refl (mL v_rowPrices))) (fun v_columnPrices_c5 v_gaps_c5 v_rowPrices_c5 => ?_)
      refine tl_g (fun h1 => ?_)
      exact (tl_e7 (Eq.refl (mI rc3)) (ja_add (Eq.refl (mI x3)) jlitI_1 h1) (Eq.refl (mA v_cameFrom_c3)) (Eq.refl (mL v_columnPrices_c5)) (Eq.refl (mL v_gaps_c5)) (jupA (Eq.refl (mA v_isReached)) (jx (Eq.refl (mI x2))) jlitI_1) (Eq.refl (mL v_rowPrices_c5)) (t_self _ _ _ _ _ _ _))
theorem t_pMatcher_freeColumnFor_b42 {N N_j : Nat} (t_N : N = N_j) {a1 : Int32} {a1_j : Int} (t_a1 : mI a1 = a1_j) {v_costs : (Nat → Nat → Int64)} {v_costs_j : (Nat → Nat → Int)} (t_v_costs : mLL v_costs = v_costs_j) {v_rowOf : (Nat → Int32)} {v_rowOf_j : (Nat → Int)} (t_v_rowOf : mA v_rowOf = v_rowOf_j) {n n_j : Nat} (t_n : n = n_j) {w0_ : Int32} {w0__j : Int} (t_w0_ : mI w0_ = w0__j) {w1_ : Int32} {w1__j : Int} (t_w1_ : mI w1_ = w1__j) {w2_ : (Nat → Int32)} {w2__j : (Nat → Int)} (t_w2_ : mA w2_ = w2__j) {w3_ : (Nat → Int64)} {w3__j : (Nat → Int)} (t_w3_ : mL w3_ = w3__j) {w4_ : (Nat → Int64)} {w4__j : (Nat → Int)} (t_w4_ : mL w4_ = w4__j) {w5_ : (Nat → Int32)} {w5__j : (Nat → Int)} (t_w5_ : mA w5_ = w5__j) {w6_ : (Nat → Int64)} {w6__j : (Nat → Int)} (t_w6_ : mL w6_ = w6__j) : tl (mP mI (mP mA (mP mL (mP mL (mP mA (mP mA mL)))))) (iMatcher_freeColumnFor_b42 N_j a1_j v_costs_j v_rowOf_j n_j w0__j w1__j w2__j w3__j w4__j w5__j w6__j) (pMatcher_freeColumnFor_b42 N a1 v_costs v_rowOf n w0_ w1_ w2_ w3_ w4_ w5_ w6_) := by
  subst t_N
  subst t_a1
  subst t_v_costs
  subst t_v_rowOf
  subst t_n
  subst t_w0_
  subst t_w1_
  subst t_w2_
  subst t_w3_
  subst t_w4_
  subst t_w5_
  subst t_w6_
  exact tl_zlp7 (fun s2 s hs w0_ w1_ w2_ w3_ w4_ w5_ w6_ => t_pMatcher_freeColumnFor_b42_F (Eq.refl N) (Eq.refl (mI a1)) (Eq.refl (mLL v_costs)) (Eq.refl (mA v_rowOf)) hs (Eq.refl (mI w0_)) (Eq.refl (mI w1_)) (Eq.refl (mA w2_)) (Eq.refl (mL w3_)) (Eq.refl (mL w4_)) (Eq.refl (mA w5_)) (Eq.refl (mL w6_))) n w0_ w1_ w2_ w3_ w4_ w5_ w6_
theorem t_pMatcher_freeColumnFor_b31 {N N_j : Nat} (t_N : N = N_j) {a1 : Int32} {a1_j : Int} (t_a1 : mI a1 = a1_j) {v_costs : (Nat → Nat → Int64)} {v_costs_j : (Nat → Nat → Int)} (t_v_costs : mLL v_costs = v_costs_j) {v_cameFrom : (Nat → Int32)} {v_cameFrom_j : (Nat → Int)} (t_v_cameFrom : mA v_cameFrom = v_cameFrom_j) {v_columnPrices : (Nat → Int64)} {v_columnPrices_j : (Nat → Int)} (t_v_columnPrices : mL v_columnPrices = v_columnPrices_j) {v_gaps : (Nat → Int64)} {v_gaps_j : (Nat → Int)} (t_v_gaps : mL v_gaps = v_gaps_j) {v_isReached : (Nat → Int32)} {v_isReached_j : (Nat → Int)} (t_v_isReached : mA v_isReached = v_isReached_j) {v_rowOf : (Nat → Int32)} {v_rowOf_j : (Nat → Int)} (t_v_rowOf : mA v_rowOf = v_rowOf_j) {v_rowPrices : (Nat → Int64)} {v_rowPrices_j : (Nat → Int)} (t_v_rowPrices : mL v_rowPrices = v_rowPrices_j) : tl (mP mI (mP mA (mP mL (mP mL (mP mA (mP mA mL)))))) (iMatcher_freeColumnFor_b31 N_j a1_j v_costs_j v_cameFrom_j v_columnPrices_j v_gaps_j v_isReached_j v_rowOf_j v_rowPrices_j) (pMatcher_freeColumnFor_b31 N a1 v_costs v_cameFrom v_columnPrices v_gaps v_isReached v_rowOf v_rowPrices) := by
  subst t_N
  subst t_a1
  subst t_v_costs
  subst t_v_cameFrom
  subst t_v_columnPrices
  subst t_v_gaps
  subst t_v_isReached
  subst t_v_rowOf
  subst t_v_rowPrices
  unfold iMatcher_freeColumnFor_b31 pMatcher_freeColumnFor_b31
  exact (t_pMatcher_freeColumnFor_b42 (Eq.refl N) (Eq.refl (mI a1)) (Eq.refl (mLL v_costs)) (jupA (Eq.refl (mA v_rowOf)) (jx jlitI_0) (Eq.refl (mI a1))) (Eq.refl N) jlitI_0 jlitI_0 (Eq.refl (mA v_cameFrom)) (Eq.refl (mL v_columnPrices)) (Eq.refl (mL v_gaps)) (Eq.refl (mA v_isReached)) (Eq.refl (mL v_rowPrices)))
theorem t_pMatcher_freeColumnFor {N N_j : Nat} (t_N : N = N_j) {a1 : Int32} {a1_j : Int} (t_a1 : mI a1 = a1_j) {v_cameFrom : (Nat → Int32)} {v_cameFrom_j : (Nat → Int)} (t_v_cameFrom : mA v_cameFrom = v_cameFrom_j) {v_columnPrices : (Nat → Int64)} {v_columnPrices_j : (Nat → Int)} (t_v_columnPrices : mL v_columnPrices = v_columnPrices_j) {v_costs : (Nat → Nat → Int64)} {v_costs_j : (Nat → Nat → Int)} (t_v_costs : mLL v_costs = v_costs_j) {v_gaps : (Nat → Int64)} {v_gaps_j : (Nat → Int)} (t_v_gaps : mL v_gaps = v_gaps_j) {v_isReached : (Nat → Int32)} {v_isReached_j : (Nat → Int)} (t_v_isReached : mA v_isReached = v_isReached_j) {v_rowOf : (Nat → Int32)} {v_rowOf_j : (Nat → Int)} (t_v_rowOf : mA v_rowOf = v_rowOf_j) {v_rowPrices : (Nat → Int64)} {v_rowPrices_j : (Nat → Int)} (t_v_rowPrices : mL v_rowPrices = v_rowPrices_j) : tl (mP mI (mP mA (mP mL (mP mL (mP mA (mP mA mL)))))) (iMatcher_freeColumnFor N_j a1_j v_cameFrom_j v_columnPrices_j v_costs_j v_gaps_j v_isReached_j v_rowOf_j v_rowPrices_j) (pMatcher_freeColumnFor N a1 v_cameFrom v_columnPrices v_costs v_gaps v_isReached v_rowOf v_rowPrices) := by
  subst t_N
  subst t_a1
  subst t_v_cameFrom
  subst t_v_columnPrices
  subst t_v_costs
  subst t_v_gaps
  subst t_v_isReached
  subst t_v_rowOf
  subst t_v_rowPrices
  unfold iMatcher_freeColumnFor pMatcher_freeColumnFor
  exact (t_pMatcher_freeColumnFor_b12 (Eq.refl N) (Eq.refl (mI a1)) (Eq.refl (mLL v_costs)) (Eq.refl (mA v_cameFrom)) (Eq.refl (mL v_columnPrices)) (jkL jlitJ_1152921504606846976) (Eq.refl (mA v_rowOf)) (Eq.refl (mL v_rowPrices)) (fun v_isReached_k1 => by exact (t_pMatcher_freeColumnFor_b31 (Eq.refl N) (Eq.refl (mI a1)) (Eq.refl (mLL v_costs)) (Eq.refl (mA v_cameFrom)) (Eq.refl (mL v_columnPrices)) (jkL jlitJ_1152921504606846976) (Eq.refl (mA v_isReached_k1)) (Eq.refl (mA v_rowOf)) (Eq.refl (mL v_rowPrices)))) (Eq.refl N) jlitI_0 (Eq.refl (mA v_isReached)))
theorem t_pMatcher_turnOver_b4_F {N N_j : Nat} (t_N : N = N_j) {a1 : Int32} {a1_j : Int} (t_a1 : mI a1 = a1_j) {v_cameFrom : (Nat → Int32)} {v_cameFrom_j : (Nat → Int)} (t_v_cameFrom : mA v_cameFrom = v_cameFrom_j) {self : Int32 → Int32 → (Nat → Int32) → Option R_pMatcher_turnOver} {self_j : Int → Int → (Nat → Int) → Option (Nat → Int)} (t_self : ∀ (q0_ : Int32) (q1_ : Int32) (q2_ : (Nat → Int32)), tl (mA) (self_j (mI q0_) (mI q1_) (mA q2_)) (self q0_ q1_ q2_)) {x2 : Int32} {x2_j : Int} (t_x2 : mI x2 = x2_j) {x3 : Int32} {x3_j : Int} (t_x3 : mI x3 = x3_j) {v_rowOf : (Nat → Int32)} {v_rowOf_j : (Nat → Int)} (t_v_rowOf : mA v_rowOf = v_rowOf_j) : tl (mA) (iMatcher_turnOver_b4_F N_j a1_j v_cameFrom_j self_j x2_j x3_j v_rowOf_j) (pMatcher_turnOver_b4_F N a1 v_cameFrom self x2 x3 v_rowOf) := by
  subst t_N
  subst t_a1
  subst t_v_cameFrom
  subst t_x2
  subst t_x3
  subst t_v_rowOf
  unfold iMatcher_turnOver_b4_F pMatcher_turnOver_b4_F
  refine tl_ite (jc_lt jlitI_20 (Eq.refl (mI x3))) ?_ ?_
  · exact (tl_some (Eq.refl (mA v_rowOf)))
  · refine tl_ite (jc_eq (Eq.refl (mI x2)) jlitI_0) ?_ ?_
    · exact (tl_some (Eq.refl (mA v_rowOf)))
    · refine tl_gd (jg_ib (Eq.refl (mI x2))) (fun _ => ?_)
      refine tl_gd (jg_ib (jrd (Eq.refl (mA v_cameFrom)) (jx (Eq.refl (mI x2))))) (fun _ => ?_)
      refine tl_g (fun h1 => ?_)
      exact (tl_e3 (jrd (Eq.refl (mA v_cameFrom)) (jx (Eq.refl (mI x2)))) (ja_add (Eq.refl (mI x3)) jlitI_1 h1) (jupA (Eq.refl (mA v_rowOf)) (jx (Eq.refl (mI x2))) (jrd (Eq.refl (mA v_rowOf)) (jx (jrd (Eq.refl (mA v_cameFrom)) (jx (Eq.refl (mI x2))))))) (t_self _ _ _))
theorem t_pMatcher_turnOver_b4 {N N_j : Nat} (t_N : N = N_j) {a1 : Int32} {a1_j : Int} (t_a1 : mI a1 = a1_j) {v_cameFrom : (Nat → Int32)} {v_cameFrom_j : (Nat → Int)} (t_v_cameFrom : mA v_cameFrom = v_cameFrom_j) {n n_j : Nat} (t_n : n = n_j) {w0_ : Int32} {w0__j : Int} (t_w0_ : mI w0_ = w0__j) {w1_ : Int32} {w1__j : Int} (t_w1_ : mI w1_ = w1__j) {w2_ : (Nat → Int32)} {w2__j : (Nat → Int)} (t_w2_ : mA w2_ = w2__j) : tl (mA) (iMatcher_turnOver_b4 N_j a1_j v_cameFrom_j n_j w0__j w1__j w2__j) (pMatcher_turnOver_b4 N a1 v_cameFrom n w0_ w1_ w2_) := by
  subst t_N
  subst t_a1
  subst t_v_cameFrom
  subst t_n
  subst t_w0_
  subst t_w1_
  subst t_w2_
  exact tl_zlp3 (fun s2 s hs w0_ w1_ w2_ => t_pMatcher_turnOver_b4_F (Eq.refl N) (Eq.refl (mI a1)) (Eq.refl (mA v_cameFrom)) hs (Eq.refl (mI w0_)) (Eq.refl (mI w1_)) (Eq.refl (mA w2_))) n w0_ w1_ w2_
theorem t_pMatcher_turnOver {N N_j : Nat} (t_N : N = N_j) {a1 : Int32} {a1_j : Int} (t_a1 : mI a1 = a1_j) {v_cameFrom : (Nat → Int32)} {v_cameFrom_j : (Nat → Int)} (t_v_cameFrom : mA v_cameFrom = v_cameFrom_j) {v_rowOf : (Nat → Int32)} {v_rowOf_j : (Nat → Int)} (t_v_rowOf : mA v_rowOf = v_rowOf_j) : tl (mA) (iMatcher_turnOver N_j a1_j v_cameFrom_j v_rowOf_j) (pMatcher_turnOver N a1 v_cameFrom v_rowOf) := by
  subst t_N
  subst t_a1
  subst t_v_cameFrom
  subst t_v_rowOf
  unfold iMatcher_turnOver pMatcher_turnOver
  exact (t_pMatcher_turnOver_b4 (Eq.refl N) (Eq.refl (mI a1)) (Eq.refl (mA v_cameFrom)) (Eq.refl N) (Eq.refl (mI a1)) jlitI_0 (Eq.refl (mA v_rowOf)))
theorem t_pMatcher_solve_b2_F {N N_j : Nat} (t_N : N = N_j) {v_costs : (Nat → Nat → Int64)} {v_costs_j : (Nat → Nat → Int)} (t_v_costs : mLL v_costs = v_costs_j) {v_mates : (Nat → Int32)} {v_mates_j : (Nat → Int)} (t_v_mates : mA v_mates = v_mates_j) {k23 : (Nat → Int32) → (Nat → Int64) → (Nat → Int64) → (Nat → Int32) → (Nat → Int32) → (Nat → Int64) → Option R_pMatcher_solve} {k23_j : (Nat → Int) → (Nat → Int) → (Nat → Int) → (Nat → Int) → (Nat → Int) → (Nat → Int) → Option R_iMatcher_solve} (t_k23 : ∀ (q0_ : (Nat → Int32)) (q1_ : (Nat → Int64)) (q2_ : (Nat → Int64)) (q3_ : (Nat → Int32)) (q4_ : (Nat → Int32)) (q5_ : (Nat → Int64)), tl (mP mA (mP mL (mP mL (mP mA (mP mA (mP mA mL)))))) (k23_j (mA q0_) (mL q1_) (mL q2_) (mA q3_) (mA q4_) (mL q5_)) (k23 q0_ q1_ q2_ q3_ q4_ q5_)) {self : Int32 → (Nat → Int32) → (Nat → Int64) → (Nat → Int64) → (Nat → Int32) → (Nat → Int32) → (Nat → Int64) → Option R_pMatcher_solve} {self_j : Int → (Nat → Int) → (Nat → Int) → (Nat → Int) → (Nat → Int) → (Nat → Int) → (Nat → Int) → Option R_iMatcher_solve} (t_self : ∀ (q0_ : Int32) (q1_ : (Nat → Int32)) (q2_ : (Nat → Int64)) (q3_ : (Nat → Int64)) (q4_ : (Nat → Int32)) (q5_ : (Nat → Int32)) (q6_ : (Nat → Int64)), tl (mP mA (mP mL (mP mL (mP mA (mP mA (mP mA mL)))))) (self_j (mI q0_) (mA q1_) (mL q2_) (mL q3_) (mA q4_) (mA q5_) (mL q6_)) (self q0_ q1_ q2_ q3_ q4_ q5_ q6_)) {x1 : Int32} {x1_j : Int} (t_x1 : mI x1 = x1_j) {v_cameFrom : (Nat → Int32)} {v_cameFrom_j : (Nat → Int)} (t_v_cameFrom : mA v_cameFrom = v_cameFrom_j) {v_columnPrices : (Nat → Int64)} {v_columnPrices_j : (Nat → Int)} (t_v_columnPrices : mL v_columnPrices = v_columnPrices_j) {v_gaps : (Nat → Int64)} {v_gaps_j : (Nat → Int)} (t_v_gaps : mL v_gaps = v_gaps_j) {v_isReached : (Nat → Int32)} {v_isReached_j : (Nat → Int)} (t_v_isReached : mA v_isReached = v_isReached_j) {v_rowOf : (Nat → Int32)} {v_rowOf_j : (Nat → Int)} (t_v_rowOf : mA v_rowOf = v_rowOf_j) {v_rowPrices : (Nat → Int64)} {v_rowPrices_j : (Nat → Int)} (t_v_rowPrices : mL v_rowPrices = v_rowPrices_j) : tl (mP mA (mP mL (mP mL (mP mA (mP mA (mP mA mL)))))) (iMatcher_solve_b2_F N_j v_costs_j v_mates_j k23_j self_j x1_j v_cameFrom_j v_columnPrices_j v_gaps_j v_isReached_j v_rowOf_j v_rowPrices_j) (pMatcher_solve_b2_F N v_costs v_mates k23 self x1 v_cameFrom v_columnPrices v_gaps v_isReached v_rowOf v_rowPrices) := by
  subst t_N
  subst t_v_costs
  subst t_v_mates
  subst t_x1
  subst t_v_cameFrom
  subst t_v_columnPrices
  subst t_v_gaps
  subst t_v_isReached
  subst t_v_rowOf
  subst t_v_rowPrices
  unfold iMatcher_solve_b2_F pMatcher_solve_b2_F
  refine tl_ite (jc_lt jlitI_10 (Eq.refl (mI x1))) ?_ ?_
  · exact (tl_e6 (Eq.refl (mA v_cameFrom)) (Eq.refl (mL v_columnPrices)) (Eq.refl (mL v_gaps)) (Eq.refl (mA v_isReached)) (Eq.refl (mA v_rowOf)) (Eq.refl (mL v_rowPrices)) (t_k23 _ _ _ _ _ _))
  · refine tl_bd7 (t_pMatcher_freeColumnFor (Eq.refl N) (Eq.refl (mI x1)) (Eq.refl (mA v_cameFrom)) (Eq.refl (mL v_columnPrices)) (Eq.refl (mLL v_costs)) (Eq.refl (mL v_gaps)) (Eq.refl (mA v_isReached)) (Eq.refl (mA v_rowOf)) (Eq.refl (mL v_rowPrices))) (fun rc1 v_cameFrom_c1 v_columnPrices_c1 v_gaps_c1 v_isReached_c1 v_rowOf_c1 v_rowPrices_c1 => ?_)
    refine tl_bd1 (t_pMatcher_turnOver (Eq.refl N) (Eq.refl (mI rc1)) (Eq.refl (mA v_cameFrom_c1)) (Eq.refl (mA v_rowOf_c1))) (fun v_rowOf_c2 => ?_)
    refine tl_g (fun h1 => ?_)
    exact (tl_e7 (ja_add (Eq.refl (mI x1)) jlitI_1 h1) (Eq.refl (mA v_cameFrom_c1)) (Eq.refl (mL v_columnPrices_c1)) (Eq.refl (mL v_gaps_c1)) (Eq.refl (mA v_isReached_c1)) (Eq.refl (mA v_rowOf_c2)) (Eq.refl (mL v_rowPrices_c1)) (t_self _ _ _ _ _ _ _))
theorem t_pMatcher_solve_b2 {N N_j : Nat} (t_N : N = N_j) {v_costs : (Nat → Nat → Int64)} {v_costs_j : (Nat → Nat → Int)} (t_v_costs : mLL v_costs = v_costs_j) {v_mates : (Nat → Int32)} {v_mates_j : (Nat → Int)} (t_v_mates : mA v_mates = v_mates_j) {k23 : (Nat → Int32) → (Nat → Int64) → (Nat → Int64) → (Nat → Int32) → (Nat → Int32) → (Nat → Int64) → Option R_pMatcher_solve} {k23_j : (Nat → Int) → (Nat → Int) → (Nat → Int) → (Nat → Int) → (Nat → Int) → (Nat → Int) → Option R_iMatcher_solve} (t_k23 : ∀ (q0_ : (Nat → Int32)) (q1_ : (Nat → Int64)) (q2_ : (Nat → Int64)) (q3_ : (Nat → Int32)) (q4_ : (Nat → Int32)) (q5_ : (Nat → Int64)), tl (mP mA (mP mL (mP mL (mP mA (mP mA (mP mA mL)))))) (k23_j (mA q0_) (mL q1_) (mL q2_) (mA q3_) (mA q4_) (mL q5_)) (k23 q0_ q1_ q2_ q3_ q4_ q5_)) {n n_j : Nat} (t_n : n = n_j) {w0_ : Int32} {w0__j : Int} (t_w0_ : mI w0_ = w0__j) {w1_ : (Nat → Int32)} {w1__j : (Nat → Int)} (t_w1_ : mA w1_ = w1__j) {w2_ : (Nat → Int64)} {w2__j : (Nat → Int)} (t_w2_ : mL w2_ = w2__j) {w3_ : (Nat → Int64)} {w3__j : (Nat → Int)} (t_w3_ : mL w3_ = w3__j) {w4_ : (Nat → Int32)} {w4__j : (Nat → Int)} (t_w4_ : mA w4_ = w4__j) {w5_ : (Nat → Int32)} {w5__j : (Nat → Int)} (t_w5_ : mA w5_ = w5__j) {w6_ : (Nat → Int64)} {w6__j : (Nat → Int)} (t_w6_ : mL w6_ = w6__j) : tl (mP mA (mP mL (mP mL (mP mA (mP mA (mP mA mL)))))) (iMatcher_solve_b2 N_j v_costs_j v_mates_j k23_j n_j w0__j w1__j w2__j w3__j w4__j w5__j w6__j) (pMatcher_solve_b2 N v_costs v_mates k23 n w0_ w1_ w2_ w3_ w4_ w5_ w6_) := by
  subst t_N
  subst t_v_costs
  subst t_v_mates
  subst t_n
  subst t_w0_
  subst t_w1_
  subst t_w2_
  subst t_w3_
  subst t_w4_
  subst t_w5_
  subst t_w6_
  exact tl_zlp7 (fun s2 s hs w0_ w1_ w2_ w3_ w4_ w5_ w6_ => t_pMatcher_solve_b2_F (Eq.refl N) (Eq.refl (mLL v_costs)) (Eq.refl (mA v_mates)) t_k23 hs (Eq.refl (mI w0_)) (Eq.refl (mA w1_)) (Eq.refl (mL w2_)) (Eq.refl (mL w3_)) (Eq.refl (mA w4_)) (Eq.refl (mA w5_)) (Eq.refl (mL w6_))) n w0_ w1_ w2_ w3_ w4_ w5_ w6_
theorem t_pMatcher_solve_b33_F {N N_j : Nat} (t_N : N = N_j) {v_costs : (Nat → Nat → Int64)} {v_costs_j : (Nat → Nat → Int)} (t_v_costs : mLL v_costs = v_costs_j) {v_cameFrom : (Nat → Int32)} {v_cameFrom_j : (Nat → Int)} (t_v_cameFrom : mA v_cameFrom = v_cameFrom_j) {v_columnPrices : (Nat → Int64)} {v_columnPrices_j : (Nat → Int)} (t_v_columnPrices : mL v_columnPrices = v_columnPrices_j) {v_gaps : (Nat → Int64)} {v_gaps_j : (Nat → Int)} (t_v_gaps : mL v_gaps = v_gaps_j) {v_isReached : (Nat → Int32)} {v_isReached_j : (Nat → Int)} (t_v_isReached : mA v_isReached = v_isReached_j) {v_rowOf : (Nat → Int32)} {v_rowOf_j : (Nat → Int)} (t_v_rowOf : mA v_rowOf = v_rowOf_j) {v_rowPrices : (Nat → Int64)} {v_rowPrices_j : (Nat → Int)} (t_v_rowPrices : mL v_rowPrices = v_rowPrices_j) {self : Int32 → (Nat → Int32) → Option R_pMatcher_solve} {self_j : Int → (Nat → Int) → Option R_iMatcher_solve} (t_self : ∀ (q0_ : Int32) (q1_ : (Nat → Int32)), tl (mP mA (mP mL (mP mL (mP mA (mP mA (mP mA mL)))))) (self_j (mI q0_) (mA q1_)) (self q0_ q1_)) {x1 : Int32} {x1_j : Int} (t_x1 : mI x1 = x1_j) {v_mates : (Nat → Int32)} {v_mates_j : (Nat → Int)} (t_v_mates : mA v_mates = v_mates_j) : tl (mP mA (mP mL (mP mL (mP mA (mP mA (mP mA mL)))))) (iMatcher_solve_b33_F N_j v_costs_j v_cameFrom_j v_columnPrices_j v_gaps_j v_isReached_j v_rowOf_j v_rowPrices_j self_j x1_j v_mates_j) (pMatcher_solve_b33_F N v_costs v_cameFrom v_columnPrices v_gaps v_isReached v_rowOf v_rowPrices self x1 v_mates) := by
  subst t_N
  subst t_v_costs
  subst t_v_cameFrom
  subst t_v_columnPrices
  subst t_v_gaps
  subst t_v_isReached
  subst t_v_rowOf
  subst t_v_rowPrices
  subst t_x1
  subst t_v_mates
  unfold iMatcher_solve_b33_F pMatcher_solve_b33_F
  refine tl_ite (jc_lt jlitI_10 (Eq.refl (mI x1))) ?_ ?_
  · exact (tl_some (jp2 (Eq.refl (mA v_cameFrom)) (jp2 (Eq.refl (mL v_columnPrices)) (jp2 (Eq.refl (mL v_gaps)) (jp2 (Eq.refl (mA v_isReached)) (jp2 (Eq.refl (mA v_mates)) (jp2 (Eq.refl (mA v_rowOf)) (Eq.refl (mL v_rowPrices)))))))))
  · refine tl_gd (jg_ib (Eq.refl (mI x1))) (fun _ => ?_)
    refine tl_ite (jc_le (jrd (Eq.refl (mA v_rowOf)) (jx (Eq.refl (mI x1)))) jlitI_0) ?_ ?_
    · refine tl_g (fun h1 => ?_)
      exact (tl_e2 (ja_add (Eq.refl (mI x1)) jlitI_1 h1) (Eq.refl (mA v_mates)) (t_self _ _))
    · refine tl_gd (jg_ib (jrd (Eq.refl (mA v_rowOf)) (jx (Eq.refl (mI x1))))) (fun _ => ?_)
      refine tl_ite (jk_eq (jrdLL (Eq.refl (mLL v_costs)) (jx (jrd (Eq.refl (mA v_rowOf)) (jx (Eq.refl (mI x1))))) (jx (Eq.refl (mI x1)))) jlitJ_0) ?_ ?_
      · refine tl_g (fun h2 => ?_)
        exact (tl_e2 (ja_add (Eq.refl (mI x1)) jlitI_1 h2) (Eq.refl (mA v_mates)) (t_self _ _))
      · refine tl_g (fun h3 => ?_)
        refine tl_gd (jg_ib (ja_sub (jrd (Eq.refl (mA v_rowOf)) (jx (Eq.refl (mI x1)))) jlitI_1 h3)) (fun _ => ?_)
        refine tl_g (fun h4 => ?_)
        refine tl_g (fun h5 => ?_)
        exact (tl_e2 (ja_add (Eq.refl (mI x1)) jlitI_1 h4) (jupA (Eq.refl (mA v_mates)) (jx (ja_sub (jrd (Eq.refl (mA v_rowOf)) (jx (Eq.refl (mI x1)))) jlitI_1 h3)) (ja_sub (Eq.refl (mI x1)) jlitI_1 h5)) (t_self _ _))
theorem t_pMatcher_solve_b33 {N N_j : Nat} (t_N : N = N_j) {v_costs : (Nat → Nat → Int64)} {v_costs_j : (Nat → Nat → Int)} (t_v_costs : mLL v_costs = v_costs_j) {v_cameFrom : (Nat → Int32)} {v_cameFrom_j : (Nat → Int)} (t_v_cameFrom : mA v_cameFrom = v_cameFrom_j) {v_columnPrices : (Nat → Int64)} {v_columnPrices_j : (Nat → Int)} (t_v_columnPrices : mL v_columnPrices = v_columnPrices_j) {v_gaps : (Nat → Int64)} {v_gaps_j : (Nat → Int)} (t_v_gaps : mL v_gaps = v_gaps_j) {v_isReached : (Nat → Int32)} {v_isReached_j : (Nat → Int)} (t_v_isReached : mA v_isReached = v_isReached_j) {v_rowOf : (Nat → Int32)} {v_rowOf_j : (Nat → Int)} (t_v_rowOf : mA v_rowOf = v_rowOf_j) {v_rowPrices : (Nat → Int64)} {v_rowPrices_j : (Nat → Int)} (t_v_rowPrices : mL v_rowPrices = v_rowPrices_j) {n n_j : Nat} (t_n : n = n_j) {w0_ : Int32} {w0__j : Int} (t_w0_ : mI w0_ = w0__j) {w1_ : (Nat → Int32)} {w1__j : (Nat → Int)} (t_w1_ : mA w1_ = w1__j) : tl (mP mA (mP mL (mP mL (mP mA (mP mA (mP mA mL)))))) (iMatcher_solve_b33 N_j v_costs_j v_cameFrom_j v_columnPrices_j v_gaps_j v_isReached_j v_rowOf_j v_rowPrices_j n_j w0__j w1__j) (pMatcher_solve_b33 N v_costs v_cameFrom v_columnPrices v_gaps v_isReached v_rowOf v_rowPrices n w0_ w1_) := by
  subst t_N
  subst t_v_costs
  subst t_v_cameFrom
  subst t_v_columnPrices
  subst t_v_gaps
  subst t_v_isReached
  subst t_v_rowOf
  subst t_v_rowPrices
  subst t_n
  subst t_w0_
  subst t_w1_
  exact tl_zlp2 (fun s2 s hs w0_ w1_ => t_pMatcher_solve_b33_F (Eq.refl N) (Eq.refl (mLL v_costs)) (Eq.refl (mA v_cameFrom)) (Eq.refl (mL v_columnPrices)) (Eq.refl (mL v_gaps)) (Eq.refl (mA v_isReached)) (Eq.refl (mA v_rowOf)) (Eq.refl (mL v_rowPrices)) hs (Eq.refl (mI w0_)) (Eq.refl (mA w1_))) n w0_ w1_
theorem t_pMatcher_solve_b23 {N N_j : Nat} (t_N : N = N_j) {v_costs : (Nat → Nat → Int64)} {v_costs_j : (Nat → Nat → Int)} (t_v_costs : mLL v_costs = v_costs_j) {v_cameFrom : (Nat → Int32)} {v_cameFrom_j : (Nat → Int)} (t_v_cameFrom : mA v_cameFrom = v_cameFrom_j) {v_columnPrices : (Nat → Int64)} {v_columnPrices_j : (Nat → Int)} (t_v_columnPrices : mL v_columnPrices = v_columnPrices_j) {v_gaps : (Nat → Int64)} {v_gaps_j : (Nat → Int)} (t_v_gaps : mL v_gaps = v_gaps_j) {v_isReached : (Nat → Int32)} {v_isReached_j : (Nat → Int)} (t_v_isReached : mA v_isReached = v_isReached_j) {v_mates : (Nat → Int32)} {v_mates_j : (Nat → Int)} (t_v_mates : mA v_mates = v_mates_j) {v_rowOf : (Nat → Int32)} {v_rowOf_j : (Nat → Int)} (t_v_rowOf : mA v_rowOf = v_rowOf_j) {v_rowPrices : (Nat → Int64)} {v_rowPrices_j : (Nat → Int)} (t_v_rowPrices : mL v_rowPrices = v_rowPrices_j) : tl (mP mA (mP mL (mP mL (mP mA (mP mA (mP mA mL)))))) (iMatcher_solve_b23 N_j v_costs_j v_cameFrom_j v_columnPrices_j v_gaps_j v_isReached_j v_mates_j v_rowOf_j v_rowPrices_j) (pMatcher_solve_b23 N v_costs v_cameFrom v_columnPrices v_gaps v_isReached v_mates v_rowOf v_rowPrices) := by
  subst t_N
  subst t_v_costs
  subst t_v_cameFrom
  subst t_v_columnPrices
  subst t_v_gaps
  subst t_v_isReached
  subst t_v_mates
  subst t_v_rowOf
  subst t_v_rowPrices
  unfold iMatcher_solve_b23 pMatcher_solve_b23
  exact (t_pMatcher_solve_b33 (Eq.refl N) (Eq.refl (mLL v_costs)) (Eq.refl (mA v_cameFrom)) (Eq.refl (mL v_columnPrices)) (Eq.refl (mL v_gaps)) (Eq.refl (mA v_isReached)) (Eq.refl (mA v_rowOf)) (Eq.refl (mL v_rowPrices)) (Eq.refl N) jlitI_1 (jkA jlitI_m1))
theorem t_pMatcher_solve {N N_j : Nat} (t_N : N = N_j) {v_cameFrom : (Nat → Int32)} {v_cameFrom_j : (Nat → Int)} (t_v_cameFrom : mA v_cameFrom = v_cameFrom_j) {v_columnPrices : (Nat → Int64)} {v_columnPrices_j : (Nat → Int)} (t_v_columnPrices : mL v_columnPrices = v_columnPrices_j) {v_costs : (Nat → Nat → Int64)} {v_costs_j : (Nat → Nat → Int)} (t_v_costs : mLL v_costs = v_costs_j) {v_gaps : (Nat → Int64)} {v_gaps_j : (Nat → Int)} (t_v_gaps : mL v_gaps = v_gaps_j) {v_isReached : (Nat → Int32)} {v_isReached_j : (Nat → Int)} (t_v_isReached : mA v_isReached = v_isReached_j) {v_mates : (Nat → Int32)} {v_mates_j : (Nat → Int)} (t_v_mates : mA v_mates = v_mates_j) {v_rowOf : (Nat → Int32)} {v_rowOf_j : (Nat → Int)} (t_v_rowOf : mA v_rowOf = v_rowOf_j) {v_rowPrices : (Nat → Int64)} {v_rowPrices_j : (Nat → Int)} (t_v_rowPrices : mL v_rowPrices = v_rowPrices_j) : tl (mP mA (mP mL (mP mL (mP mA (mP mA (mP mA mL)))))) (iMatcher_solve N_j v_cameFrom_j v_columnPrices_j v_costs_j v_gaps_j v_isReached_j v_mates_j v_rowOf_j v_rowPrices_j) (pMatcher_solve N v_cameFrom v_columnPrices v_costs v_gaps v_isReached v_mates v_rowOf v_rowPrices) := by
  subst t_N
  subst t_v_cameFrom
  subst t_v_columnPrices
  subst t_v_costs
  subst t_v_gaps
  subst t_v_isReached
  subst t_v_mates
  subst t_v_rowOf
  subst t_v_rowPrices
  unfold iMatcher_solve pMatcher_solve
  exact (t_pMatcher_solve_b2 (Eq.refl N) (Eq.refl (mLL v_costs)) (Eq.refl (mA v_mates)) (fun v_cameFrom_k1 v_columnPrices_k2 v_gaps_k3 v_isReached_k4 e7_ e8_ => by exact (t_pMatcher_solve_b23 (Eq.refl N) (Eq.refl (mLL v_costs)) (Eq.refl (mA v_cameFrom_k1)) (Eq.refl (mL v_columnPrices_k2)) (Eq.refl (mL v_gaps_k3)) (Eq.refl (mA v_isReached_k4)) (Eq.refl (mA v_mates)) (Eq.refl (mA e7_)) (Eq.refl (mL e8_)))) (Eq.refl N) jlitI_1 (Eq.refl (mA v_cameFrom)) (Eq.refl (mL v_columnPrices)) (Eq.refl (mL v_gaps)) (Eq.refl (mA v_isReached)) (Eq.refl (mA v_rowOf)) (Eq.refl (mL v_rowPrices)))
theorem t_pMatcher_foilOf {a1 : Int32} {a1_j : Int} (t_a1 : mI a1 = a1_j) {v_mates : (Nat → Int32)} {v_mates_j : (Nat → Int)} (t_v_mates : mA v_mates = v_mates_j) : tl (mI) (iMatcher_foilOf a1_j v_mates_j) (pMatcher_foilOf a1 v_mates) := by
  subst t_a1
  subst t_v_mates
  unfold iMatcher_foilOf pMatcher_foilOf
  refine tl_bd1 (t_pK_isStick (Eq.refl (mI a1))) (fun rc1 => ?_)
  refine tl_ite (jc_eq (Eq.refl (mI rc1)) jlitI_0) ?_ ?_
  · exact (tl_some jlitI_m1)
  · refine tl_gd (jg_ib (Eq.refl (mI a1))) (fun _ => ?_)
    exact (tl_some (jrd (Eq.refl (mA v_mates)) (jx (Eq.refl (mI a1)))))
theorem t_pChest_isHalf {a0 : Int32} {a0_j : Int} (t_a0 : mI a0 = a0_j) : tl (mI) (iChest_isHalf a0_j) (pChest_isHalf a0) := by
  subst t_a0
  unfold iChest_isHalf pChest_isHalf
  refine tl_ite (jc_lt (Eq.refl (mI a0)) jlitI_0) ?_ ?_
  · exact (tl_some jlitI_0)
  · refine tl_ite (jc_le jlitI_20 (Eq.refl (mI a0))) ?_ ?_
    · exact (tl_some jlitI_0)
    · exact (tl_some jlitI_1)
theorem t_pChest_forget_b36 {N N_j : Nat} (t_N : N = N_j) {a1 : Int32} {a1_j : Int} (t_a1 : mI a1 = a1_j) {self : Int32 → (Nat → Int32) → Option R_pChest_forget} {self_j : Int → (Nat → Int) → Option R_iChest_forget} (t_self : ∀ (q0_ : Int32) (q1_ : (Nat → Int32)), tl (mP mI (mP mI mA)) (self_j (mI q0_) (mA q1_)) (self q0_ q1_)) {x2 : Int32} {x2_j : Int} (t_x2 : mI x2 = x2_j) {s1 : Int32} {s1_j : Int} (t_s1 : mI s1 = s1_j) {v_changes : Int32} {v_changes_j : Int} (t_v_changes : mI v_changes = v_changes_j) {v_isMatched : Int32} {v_isMatched_j : Int} (t_v_isMatched : mI v_isMatched = v_isMatched_j) {v_fits : (Nat → Int32)} {v_fits_j : (Nat → Int)} (t_v_fits : mA v_fits = v_fits_j) : tl (mP mI (mP mI mA)) (iChest_forget_b36 N_j a1_j self_j x2_j s1_j v_changes_j v_isMatched_j v_fits_j) (pChest_forget_b36 N a1 self x2 s1 v_changes v_isMatched v_fits) := by
  subst t_N
  subst t_a1
  subst t_x2
  subst t_s1
  subst t_v_changes
  subst t_v_isMatched
  subst t_v_fits
  unfold iChest_forget_b36 pChest_forget_b36
  refine tl_gd (jg_ib (Eq.refl (mI s1))) (fun _ => ?_)
  refine tl_g (fun h1 => ?_)
  exact (tl_e2 (ja_add (Eq.refl (mI x2)) jlitI_1 h1) (jupA (Eq.refl (mA v_fits)) (jx (Eq.refl (mI s1))) jlitI_m2) (t_self _ _))
theorem t_pChest_forget_b2_F {N N_j : Nat} (t_N : N = N_j) {a1 : Int32} {a1_j : Int} (t_a1 : mI a1 = a1_j) {v_changes : Int32} {v_changes_j : Int} (t_v_changes : mI v_changes = v_changes_j) {v_isMatched : Int32} {v_isMatched_j : Int} (t_v_isMatched : mI v_isMatched = v_isMatched_j) {self : Int32 → (Nat → Int32) → Option R_pChest_forget} {self_j : Int → (Nat → Int) → Option R_iChest_forget} (t_self : ∀ (q0_ : Int32) (q1_ : (Nat → Int32)), tl (mP mI (mP mI mA)) (self_j (mI q0_) (mA q1_)) (self q0_ q1_)) {x2 : Int32} {x2_j : Int} (t_x2 : mI x2 = x2_j) {v_fits : (Nat → Int32)} {v_fits_j : (Nat → Int)} (t_v_fits : mA v_fits = v_fits_j) : tl (mP mI (mP mI mA)) (iChest_forget_b2_F N_j a1_j v_changes_j v_isMatched_j self_j x2_j v_fits_j) (pChest_forget_b2_F N a1 v_changes v_isMatched self x2 v_fits) := by
  subst t_N
  subst t_a1
  subst t_v_changes
  subst t_v_isMatched
  subst t_x2
  subst t_v_fits
  unfold iChest_forget_b2_F pChest_forget_b2_F
  refine tl_ite (jc_le jlitI_10 (Eq.refl (mI x2))) ?_ ?_
  · refine tl_g (fun h1 => ?_)
    exact (tl_some (jp2 (ja_add (Eq.refl (mI v_changes)) jlitI_1 h1) (jp2 jlitI_0 (Eq.refl (mA v_fits)))))
  · refine tl_ite (jc_le jlitI_10 (Eq.refl (mI a1))) ?_ ?_
    · refine tl_g (fun h2 => ?_)
      refine tl_g (fun h3 => ?_)
      refine tl_g (fun h4 => ?_)
      exact (t_pChest_forget_b36 (Eq.refl N) (Eq.refl (mI a1)) t_self (Eq.refl (mI x2)) (ja_sub (ja_add (ja_mul (Eq.refl (mI x2)) jlitI_10 h2) (Eq.refl (mI a1)) h3) jlitI_10 h4) (Eq.refl (mI v_changes)) (Eq.refl (mI v_isMatched)) (Eq.refl (mA v_fits)))
    · refine tl_g (fun h5 => ?_)
      refine tl_g (fun h6 => ?_)
      exact (t_pChest_forget_b36 (Eq.refl N) (Eq.refl (mI a1)) t_self (Eq.refl (mI x2)) (ja_add (ja_mul (Eq.refl (mI a1)) jlitI_10 h5) (Eq.refl (mI x2)) h6) (Eq.refl (mI v_changes)) (Eq.refl (mI v_isMatched)) (Eq.refl (mA v_fits)))
theorem t_pChest_forget_b2 {N N_j : Nat} (t_N : N = N_j) {a1 : Int32} {a1_j : Int} (t_a1 : mI a1 = a1_j) {v_changes : Int32} {v_changes_j : Int} (t_v_changes : mI v_changes = v_changes_j) {v_isMatched : Int32} {v_isMatched_j : Int} (t_v_isMatched : mI v_isMatched = v_isMatched_j) {n n_j : Nat} (t_n : n = n_j) {w0_ : Int32} {w0__j : Int} (t_w0_ : mI w0_ = w0__j) {w1_ : (Nat → Int32)} {w1__j : (Nat → Int)} (t_w1_ : mA w1_ = w1__j) : tl (mP mI (mP mI mA)) (iChest_forget_b2 N_j a1_j v_changes_j v_isMatched_j n_j w0__j w1__j) (pChest_forget_b2 N a1 v_changes v_isMatched n w0_ w1_) := by
  subst t_N
  subst t_a1
  subst t_v_changes
  subst t_v_isMatched
  subst t_n
  subst t_w0_
  subst t_w1_
  exact tl_zlp2 (fun s2 s hs w0_ w1_ => t_pChest_forget_b2_F (Eq.refl N) (Eq.refl (mI a1)) (Eq.refl (mI v_changes)) (Eq.refl (mI v_isMatched)) hs (Eq.refl (mI w0_)) (Eq.refl (mA w1_))) n w0_ w1_
theorem t_pChest_forget {N N_j : Nat} (t_N : N = N_j) {a1 : Int32} {a1_j : Int} (t_a1 : mI a1 = a1_j) {v_changes : Int32} {v_changes_j : Int} (t_v_changes : mI v_changes = v_changes_j) {v_isMatched : Int32} {v_isMatched_j : Int} (t_v_isMatched : mI v_isMatched = v_isMatched_j) {v_fits : (Nat → Int32)} {v_fits_j : (Nat → Int)} (t_v_fits : mA v_fits = v_fits_j) : tl (mP mI (mP mI mA)) (iChest_forget N_j a1_j v_changes_j v_isMatched_j v_fits_j) (pChest_forget N a1 v_changes v_isMatched v_fits) := by
  subst t_N
  subst t_a1
  subst t_v_changes
  subst t_v_isMatched
  subst t_v_fits
  unfold iChest_forget pChest_forget
  exact (t_pChest_forget_b2 (Eq.refl N) (Eq.refl (mI a1)) (Eq.refl (mI v_changes)) (Eq.refl (mI v_isMatched)) (Eq.refl N) jlitI_0 (Eq.refl (mA v_fits)))
theorem t_pChest_addCut_b76 {N N_j : Nat} (t_N : N = N_j) {a1 : Int32} {a1_j : Int} (t_a1 : mI a1 = a1_j) {a2 : Int32} {a2_j : Int} (t_a2 : mI a2 = a2_j) {a3 : Int32} {a3_j : Int} (t_a3 : mI a3 = a3_j) {x4 : Int32} {x4_j : Int} (t_x4 : mI x4 = x4_j) {x5 : Int32} {x5_j : Int} (t_x5 : mI x5 = x5_j) {v_changes : Int32} {v_changes_j : Int} (t_v_changes : mI v_changes = v_changes_j) {v_isMatched : Int32} {v_isMatched_j : Int} (t_v_isMatched : mI v_isMatched = v_isMatched_j) {v_fits : (Nat → Int32)} {v_fits_j : (Nat → Int)} (t_v_fits : mA v_fits = v_fits_j) {v_places : (Nat → Int32)} {v_places_j : (Nat → Int)} (t_v_places : mA v_places = v_places_j) {v_sizes : (Nat → Int32)} {v_sizes_j : (Nat → Int)} (t_v_sizes : mA v_sizes = v_sizes_j) {v_worths : (Nat → Int32)} {v_worths_j : (Nat → Int)} (t_v_worths : mA v_worths = v_worths_j) : tl (mP mI (mP mI (mP mI (mP mA (mP mA (mP mA mA)))))) (iChest_addCut_b76 N_j a1_j a2_j a3_j x4_j x5_j v_changes_j v_isMatched_j v_fits_j v_places_j v_sizes_j v_worths_j) (pChest_addCut_b76 N a1 a2 a3 x4 x5 v_changes v_isMatched v_fits v_places v_sizes v_worths) := by
  subst t_N
  subst t_a1
  subst t_a2
  subst t_a3
  subst t_x4
  subst t_x5
  subst t_v_changes
  subst t_v_isMatched
  subst t_v_fits
  subst t_v_places
  subst t_v_sizes
  subst t_v_worths
  unfold iChest_addCut_b76 pChest_addCut_b76
  refine tl_gd (jg_ib (Eq.refl (mI x5))) (fun _ => ?_)
  refine tl_gd (jg_ib (Eq.refl (mI a1))) (fun _ => ?_)
  refine tl_bd3 (t_pChest_forget (Eq.refl N) (Eq.refl (mI a1)) (Eq.refl (mI v_changes)) (Eq.refl (mI v_isMatched)) (Eq.refl (mA v_fits))) (fun v_changes_c6 v_isMatched_c6 v_fits_c6 => ?_)
  refine tl_g (fun h1 => ?_)
  exact (tl_some (jp2 (ja_add (Eq.refl (mI x4)) jlitI_1 h1) (jp2 (Eq.refl (mI v_changes_c6)) (jp2 (Eq.refl (mI v_isMatched_c6)) (jp2 (Eq.refl (mA v_fits_c6)) (jp2 (jupA (Eq.refl (mA v_places)) (jx (Eq.refl (mI x5))) (Eq.refl (mI a2))) (jp2 (jupA (Eq.refl (mA v_sizes)) (jx (Eq.refl (mI a1))) (ja_add (Eq.refl (mI x4)) jlitI_1 h1)) (jupA (Eq.refl (mA v_worths)) (jx (Eq.refl (mI x5))) (Eq.refl (mI a3))))))))))
theorem t_pChest_addCut {N N_j : Nat} (t_N : N = N_j) {a1 : Int32} {a1_j : Int} (t_a1 : mI a1 = a1_j) {a2 : Int32} {a2_j : Int} (t_a2 : mI a2 = a2_j) {a3 : Int32} {a3_j : Int} (t_a3 : mI a3 = a3_j) {v_changes : Int32} {v_changes_j : Int} (t_v_changes : mI v_changes = v_changes_j) {v_isMatched : Int32} {v_isMatched_j : Int} (t_v_isMatched : mI v_isMatched = v_isMatched_j) {v_fits : (Nat → Int32)} {v_fits_j : (Nat → Int)} (t_v_fits : mA v_fits = v_fits_j) {v_places : (Nat → Int32)} {v_places_j : (Nat → Int)} (t_v_places : mA v_places = v_places_j) {v_sizes : (Nat → Int32)} {v_sizes_j : (Nat → Int)} (t_v_sizes : mA v_sizes = v_sizes_j) {v_worths : (Nat → Int32)} {v_worths_j : (Nat → Int)} (t_v_worths : mA v_worths = v_worths_j) : tl (mP mI (mP mI (mP mI (mP mA (mP mA (mP mA mA)))))) (iChest_addCut N_j a1_j a2_j a3_j v_changes_j v_isMatched_j v_fits_j v_places_j v_sizes_j v_worths_j) (pChest_addCut N a1 a2 a3 v_changes v_isMatched v_fits v_places v_sizes v_worths) := by
  subst t_N
  subst t_a1
  subst t_a2
  subst t_a3
  subst t_v_changes
  subst t_v_isMatched
  subst t_v_fits
  subst t_v_places
  subst t_v_sizes
  subst t_v_worths
  unfold iChest_addCut pChest_addCut
  refine tl_bd1 (t_pChest_isHalf (Eq.refl (mI a1))) (fun rc1 => ?_)
  refine tl_ite (jc_eq (Eq.refl (mI rc1)) jlitI_0) ?_ ?_
  · exact (tl_some (jp2 jlitI_m1 (jp2 (Eq.refl (mI v_changes)) (jp2 (Eq.refl (mI v_isMatched)) (jp2 (Eq.refl (mA v_fits)) (jp2 (Eq.refl (mA v_places)) (jp2 (Eq.refl (mA v_sizes)) (Eq.refl (mA v_worths)))))))))
  · refine tl_ite (jc_lt (Eq.refl (mI a2)) jlitI_0) ?_ ?_
    · exact (tl_some (jp2 jlitI_m1 (jp2 (Eq.refl (mI v_changes)) (jp2 (Eq.refl (mI v_isMatched)) (jp2 (Eq.refl (mA v_fits)) (jp2 (Eq.refl (mA v_places)) (jp2 (Eq.refl (mA v_sizes)) (Eq.refl (mA v_worths)))))))))
    · refine tl_ite (jc_lt jlitI_240 (Eq.refl (mI a2))) ?_ ?_
      · exact (tl_some (jp2 jlitI_m1 (jp2 (Eq.refl (mI v_changes)) (jp2 (Eq.refl (mI v_isMatched)) (jp2 (Eq.refl (mA v_fits)) (jp2 (Eq.refl (mA v_places)) (jp2 (Eq.refl (mA v_sizes)) (Eq.refl (mA v_worths)))))))))
      · refine tl_ite (jc_lt (Eq.refl (mI a3)) jlitI_0) ?_ ?_
        · exact (tl_some (jp2 jlitI_m1 (jp2 (Eq.refl (mI v_changes)) (jp2 (Eq.refl (mI v_isMatched)) (jp2 (Eq.refl (mA v_fits)) (jp2 (Eq.refl (mA v_places)) (jp2 (Eq.refl (mA v_sizes)) (Eq.refl (mA v_worths)))))))))
        · refine tl_g (fun h1 => ?_)
          refine tl_ite (jc_lt (Eq.refl (mI a3)) (ja_of h1)) ?_ ?_
          · refine tl_gd (jg_ib (Eq.refl (mI a1))) (fun _ => ?_)
            refine tl_ite (jc_le jlitI_12 (jrd (Eq.refl (mA v_sizes)) (jx (Eq.refl (mI a1))))) ?_ ?_
            · exact (tl_some (jp2 jlitI_m1 (jp2 (Eq.refl (mI v_changes)) (jp2 (Eq.refl (mI v_isMatched)) (jp2 (Eq.refl (mA v_fits)) (jp2 (Eq.refl (mA v_places)) (jp2 (Eq.refl (mA v_sizes)) (Eq.refl (mA v_worths)))))))))
            · refine tl_ite (jc_le (jrd (Eq.refl (mA v_sizes)) (jx (Eq.refl (mI a1)))) jlitI_0) ?_ ?_
              · refine tl_g (fun h2 => ?_)
                refine tl_g (fun h3 => ?_)
                exact (t_pChest_addCut_b76 (Eq.refl N) (Eq.refl (mI a1)) (Eq.refl (mI a2)) (Eq.refl (mI a3)) (jrd (Eq.refl (mA v_sizes)) (jx (Eq.refl (mI a1)))) (ja_add (ja_mul (Eq.refl (mI a1)) jlitI_12 h2) (jrd (Eq.refl (mA v_sizes)) (jx (Eq.refl (mI a1)))) h3) (Eq.refl (mI v_changes)) (Eq.refl (mI v_isMatched)) (Eq.refl (mA v_fits)) (Eq.refl (mA v_places)) (Eq.refl (mA v_sizes)) (Eq.refl (mA v_worths)))
              · refine tl_g (fun h4 => ?_)
                refine tl_g (fun h5 => ?_)
                refine tl_g (fun h6 => ?_)
                refine tl_gd (jg_ib (ja_sub (ja_add (ja_mul (Eq.refl (mI a1)) jlitI_12 h4) (jrd (Eq.refl (mA v_sizes)) (jx (Eq.refl (mI a1)))) h5) jlitI_1 h6)) (fun _ => ?_)
                refine tl_ite (jc_lt (jrd (Eq.refl (mA v_places)) (jx (ja_sub (ja_add (ja_mul (Eq.refl (mI a1)) jlitI_12 h4) (jrd (Eq.refl (mA v_sizes)) (jx (Eq.refl (mI a1)))) h5) jlitI_1 h6))) (Eq.refl (mI a2))) ?_ ?_
                · exact (t_pChest_addCut_b76 (Eq.refl N) (Eq.refl (mI a1)) (Eq.refl (mI a2)) (Eq.refl (mI a3)) (jrd (Eq.refl (mA v_sizes)) (jx (Eq.refl (mI a1)))) (ja_add (ja_mul (Eq.refl (mI a1)) jlitI_12 h4) (jrd (Eq.refl (mA v_sizes)) (jx (Eq.refl (mI a1)))) h5) (Eq.refl (mI v_changes)) (Eq.refl (mI v_isMatched)) (Eq.refl (mA v_fits)) (Eq.refl (mA v_places)) (Eq.refl (mA v_sizes)) (Eq.refl (mA v_worths)))
                · exact (tl_some (jp2 jlitI_m1 (jp2 (Eq.refl (mI v_changes)) (jp2 (Eq.refl (mI v_isMatched)) (jp2 (Eq.refl (mA v_fits)) (jp2 (Eq.refl (mA v_places)) (jp2 (Eq.refl (mA v_sizes)) (Eq.refl (mA v_worths)))))))))
          · exact (tl_some (jp2 jlitI_m1 (jp2 (Eq.refl (mI v_changes)) (jp2 (Eq.refl (mI v_isMatched)) (jp2 (Eq.refl (mA v_fits)) (jp2 (Eq.refl (mA v_places)) (jp2 (Eq.refl (mA v_sizes)) (Eq.refl (mA v_worths)))))))))
theorem t_pChest_isThere {a1 : Int32} {a1_j : Int} (t_a1 : mI a1 = a1_j) {v_sizes : (Nat → Int32)} {v_sizes_j : (Nat → Int)} (t_v_sizes : mA v_sizes = v_sizes_j) : tl (mI) (iChest_isThere a1_j v_sizes_j) (pChest_isThere a1 v_sizes) := by
  subst t_a1
  subst t_v_sizes
  unfold iChest_isThere pChest_isThere
  refine tl_bd1 (t_pChest_isHalf (Eq.refl (mI a1))) (fun rc1 => ?_)
  refine tl_ite (jc_eq (Eq.refl (mI rc1)) jlitI_0) ?_ ?_
  · exact (tl_some jlitI_0)
  · refine tl_gd (jg_ib (Eq.refl (mI a1))) (fun _ => ?_)
    refine tl_ite (jc_le (jrd (Eq.refl (mA v_sizes)) (jx (Eq.refl (mI a1)))) jlitI_0) ?_ ?_
    · exact (tl_some jlitI_0)
    · exact (tl_some jlitI_1)
theorem t_pChest_clear {N N_j : Nat} (t_N : N = N_j) {a1 : Int32} {a1_j : Int} (t_a1 : mI a1 = a1_j) {v_changes : Int32} {v_changes_j : Int} (t_v_changes : mI v_changes = v_changes_j) {v_isMatched : Int32} {v_isMatched_j : Int} (t_v_isMatched : mI v_isMatched = v_isMatched_j) {v_fits : (Nat → Int32)} {v_fits_j : (Nat → Int)} (t_v_fits : mA v_fits = v_fits_j) {v_sizes : (Nat → Int32)} {v_sizes_j : (Nat → Int)} (t_v_sizes : mA v_sizes = v_sizes_j) : tl (mP mI (mP mI (mP mI (mP mA mA)))) (iChest_clear N_j a1_j v_changes_j v_isMatched_j v_fits_j v_sizes_j) (pChest_clear N a1 v_changes v_isMatched v_fits v_sizes) := by
  subst t_N
  subst t_a1
  subst t_v_changes
  subst t_v_isMatched
  subst t_v_fits
  subst t_v_sizes
  unfold iChest_clear pChest_clear
  refine tl_bd1 (t_pChest_isThere (Eq.refl (mI a1)) (Eq.refl (mA v_sizes))) (fun rc1 => ?_)
  refine tl_ite (jc_eq (Eq.refl (mI rc1)) jlitI_0) ?_ ?_
  · exact (tl_some (jp2 jlitI_0 (jp2 (Eq.refl (mI v_changes)) (jp2 (Eq.refl (mI v_isMatched)) (jp2 (Eq.refl (mA v_fits)) (Eq.refl (mA v_sizes)))))))
  · refine tl_gd (jg_ib (Eq.refl (mI a1))) (fun _ => ?_)
    refine tl_bd3 (t_pChest_forget (Eq.refl N) (Eq.refl (mI a1)) (Eq.refl (mI v_changes)) (Eq.refl (mI v_isMatched)) (Eq.refl (mA v_fits))) (fun v_changes_c3 v_isMatched_c3 v_fits_c3 => ?_)
    exact (tl_some (jp2 jlitI_1 (jp2 (Eq.refl (mI v_changes_c3)) (jp2 (Eq.refl (mI v_isMatched_c3)) (jp2 (Eq.refl (mA v_fits_c3)) (jupA (Eq.refl (mA v_sizes)) (jx (Eq.refl (mI a1))) jlitI_0))))))
theorem t_pChest_worthOf_b14_F {N N_j : Nat} (t_N : N = N_j) {a1 : Int32} {a1_j : Int} (t_a1 : mI a1 = a1_j) {v_sizes : (Nat → Int32)} {v_sizes_j : (Nat → Int)} (t_v_sizes : mA v_sizes = v_sizes_j) {v_worths : (Nat → Int32)} {v_worths_j : (Nat → Int)} (t_v_worths : mA v_worths = v_worths_j) {self : Int32 → Int32 → Option R_pChest_worthOf} {self_j : Int → Int → Option Int} (t_self : ∀ (q0_ : Int32) (q1_ : Int32), tl (mI) (self_j (mI q0_) (mI q1_)) (self q0_ q1_)) {x2 : Int32} {x2_j : Int} (t_x2 : mI x2 = x2_j) {x3 : Int32} {x3_j : Int} (t_x3 : mI x3 = x3_j) : tl (mI) (iChest_worthOf_b14_F N_j a1_j v_sizes_j v_worths_j self_j x2_j x3_j) (pChest_worthOf_b14_F N a1 v_sizes v_worths self x2 x3) := by
  subst t_N
  subst t_a1
  subst t_v_sizes
  subst t_v_worths
  subst t_x2
  subst t_x3
  unfold iChest_worthOf_b14_F pChest_worthOf_b14_F
  refine tl_gd (jg_ib (Eq.refl (mI a1))) (fun _ => ?_)
  refine tl_ite (jc_le (jrd (Eq.refl (mA v_sizes)) (jx (Eq.refl (mI a1)))) (Eq.refl (mI x3))) ?_ ?_
  · exact (tl_some (Eq.refl (mI x2)))
  · refine tl_g (fun h1 => ?_)
    refine tl_g (fun h2 => ?_)
    refine tl_gd (jg_ib (ja_add (ja_mul (Eq.refl (mI a1)) jlitI_12 h1) (Eq.refl (mI x3)) h2)) (fun _ => ?_)
    refine tl_gd (jg_ib (jrd (Eq.refl (mA v_worths)) (jx (ja_add (ja_mul (Eq.refl (mI a1)) jlitI_12 h1) (Eq.refl (mI x3)) h2)))) (fun _ => ?_)
    refine tl_g (fun h3 => ?_)
    refine tl_g (fun h4 => ?_)
    exact (tl_e2 (ja_add (Eq.refl (mI x2)) (jtab2 (jx (jrd (Eq.refl (mA v_worths)) (jx (ja_add (ja_mul (Eq.refl (mI a1)) jlitI_12 h1) (Eq.refl (mI x3)) h2))))) h3) (ja_add (Eq.refl (mI x3)) jlitI_1 h4) (t_self _ _))
theorem t_pChest_worthOf_b14 {N N_j : Nat} (t_N : N = N_j) {a1 : Int32} {a1_j : Int} (t_a1 : mI a1 = a1_j) {v_sizes : (Nat → Int32)} {v_sizes_j : (Nat → Int)} (t_v_sizes : mA v_sizes = v_sizes_j) {v_worths : (Nat → Int32)} {v_worths_j : (Nat → Int)} (t_v_worths : mA v_worths = v_worths_j) {n n_j : Nat} (t_n : n = n_j) {w0_ : Int32} {w0__j : Int} (t_w0_ : mI w0_ = w0__j) {w1_ : Int32} {w1__j : Int} (t_w1_ : mI w1_ = w1__j) : tl (mI) (iChest_worthOf_b14 N_j a1_j v_sizes_j v_worths_j n_j w0__j w1__j) (pChest_worthOf_b14 N a1 v_sizes v_worths n w0_ w1_) := by
  subst t_N
  subst t_a1
  subst t_v_sizes
  subst t_v_worths
  subst t_n
  subst t_w0_
  subst t_w1_
  exact tl_zlp2 (fun s2 s hs w0_ w1_ => t_pChest_worthOf_b14_F (Eq.refl N) (Eq.refl (mI a1)) (Eq.refl (mA v_sizes)) (Eq.refl (mA v_worths)) hs (Eq.refl (mI w0_)) (Eq.refl (mI w1_))) n w0_ w1_
theorem t_pChest_worthOf {N N_j : Nat} (t_N : N = N_j) {a1 : Int32} {a1_j : Int} (t_a1 : mI a1 = a1_j) {v_sizes : (Nat → Int32)} {v_sizes_j : (Nat → Int)} (t_v_sizes : mA v_sizes = v_sizes_j) {v_worths : (Nat → Int32)} {v_worths_j : (Nat → Int)} (t_v_worths : mA v_worths = v_worths_j) : tl (mI) (iChest_worthOf N_j a1_j v_sizes_j v_worths_j) (pChest_worthOf N a1 v_sizes v_worths) := by
  subst t_N
  subst t_a1
  subst t_v_sizes
  subst t_v_worths
  unfold iChest_worthOf pChest_worthOf
  refine tl_bd1 (t_pChest_isThere (Eq.refl (mI a1)) (Eq.refl (mA v_sizes))) (fun rc1 => ?_)
  refine tl_ite (jc_eq (Eq.refl (mI rc1)) jlitI_0) ?_ ?_
  · exact (tl_some jlitI_m1)
  · exact (t_pChest_worthOf_b14 (Eq.refl N) (Eq.refl (mI a1)) (Eq.refl (mA v_sizes)) (Eq.refl (mA v_worths)) (Eq.refl N) jlitI_0 jlitI_0)
theorem t_pChest_setWear_b59 {a1 : Int32} {a1_j : Int} (t_a1 : mI a1 = a1_j) {a2 : Int32} {a2_j : Int} (t_a2 : mI a2 = a2_j) {a3 : Int32} {a3_j : Int} (t_a3 : mI a3 = a3_j) {v_changes : Int32} {v_changes_j : Int} (t_v_changes : mI v_changes = v_changes_j) {v_grain : Int32} {v_grain_j : Int} (t_v_grain : mI v_grain = v_grain_j) {v_isMatched : Int32} {v_isMatched_j : Int} (t_v_isMatched : mI v_isMatched = v_isMatched_j) {v_limit : Int32} {v_limit_j : Int} (t_v_limit : mI v_limit = v_limit_j) {v_lost : Int32} {v_lost_j : Int} (t_v_lost : mI v_lost = v_lost_j) {v_fits : (Nat → Int32)} {v_fits_j : (Nat → Int)} (t_v_fits : mA v_fits = v_fits_j) : tl (mP mI (mP mI (mP mI (mP mI (mP mI (mP mI mA)))))) (iChest_setWear_b59 a1_j a2_j a3_j v_changes_j v_grain_j v_isMatched_j v_limit_j v_lost_j v_fits_j) (pChest_setWear_b59 a1 a2 a3 v_changes v_grain v_isMatched v_limit v_lost v_fits) := by
  subst t_a1
  subst t_a2
  subst t_a3
  subst t_v_changes
  subst t_v_grain
  subst t_v_isMatched
  subst t_v_limit
  subst t_v_lost
  subst t_v_fits
  unfold iChest_setWear_b59 pChest_setWear_b59
  refine tl_g (fun h1 => ?_)
  exact (tl_some (jp2 jlitI_1 (jp2 (ja_add (Eq.refl (mI v_changes)) jlitI_1 h1) (jp2 (Eq.refl (mI a1)) (jp2 jlitI_0 (jp2 (Eq.refl (mI a3)) (jp2 (Eq.refl (mI a2)) (Eq.refl (mA v_fits)))))))))
theorem t_pChest_setWear_b50 {a1 : Int32} {a1_j : Int} (t_a1 : mI a1 = a1_j) {a2 : Int32} {a2_j : Int} (t_a2 : mI a2 = a2_j) {a3 : Int32} {a3_j : Int} (t_a3 : mI a3 = a3_j) {v_changes : Int32} {v_changes_j : Int} (t_v_changes : mI v_changes = v_changes_j) {v_grain : Int32} {v_grain_j : Int} (t_v_grain : mI v_grain = v_grain_j) {v_isMatched : Int32} {v_isMatched_j : Int} (t_v_isMatched : mI v_isMatched = v_isMatched_j) {v_limit : Int32} {v_limit_j : Int} (t_v_limit : mI v_limit = v_limit_j) {v_lost : Int32} {v_lost_j : Int} (t_v_lost : mI v_lost = v_lost_j) {v_fits : (Nat → Int32)} {v_fits_j : (Nat → Int)} (t_v_fits : mA v_fits = v_fits_j) : tl (mP mI (mP mI (mP mI (mP mI (mP mI (mP mI mA)))))) (iChest_setWear_b50 a1_j a2_j a3_j v_changes_j v_grain_j v_isMatched_j v_limit_j v_lost_j v_fits_j) (pChest_setWear_b50 a1 a2 a3 v_changes v_grain v_isMatched v_limit v_lost v_fits) := by
  subst t_a1
  subst t_a2
  subst t_a3
  subst t_v_changes
  subst t_v_grain
  subst t_v_isMatched
  subst t_v_limit
  subst t_v_lost
  subst t_v_fits
  unfold iChest_setWear_b50 pChest_setWear_b50
  exact (t_pChest_setWear_b59 (Eq.refl (mI a1)) (Eq.refl (mI a2)) (Eq.refl (mI a3)) (Eq.refl (mI v_changes)) (Eq.refl (mI v_grain)) (Eq.refl (mI v_isMatched)) (Eq.refl (mI v_limit)) (Eq.refl (mI v_lost)) (jkA jlitI_m2))
theorem t_pChest_setWear {a1 : Int32} {a1_j : Int} (t_a1 : mI a1 = a1_j) {a2 : Int32} {a2_j : Int} (t_a2 : mI a2 = a2_j) {a3 : Int32} {a3_j : Int} (t_a3 : mI a3 = a3_j) {v_changes : Int32} {v_changes_j : Int} (t_v_changes : mI v_changes = v_changes_j) {v_grain : Int32} {v_grain_j : Int} (t_v_grain : mI v_grain = v_grain_j) {v_isMatched : Int32} {v_isMatched_j : Int} (t_v_isMatched : mI v_isMatched = v_isMatched_j) {v_limit : Int32} {v_limit_j : Int} (t_v_limit : mI v_limit = v_limit_j) {v_lost : Int32} {v_lost_j : Int} (t_v_lost : mI v_lost = v_lost_j) {v_fits : (Nat → Int32)} {v_fits_j : (Nat → Int)} (t_v_fits : mA v_fits = v_fits_j) : tl (mP mI (mP mI (mP mI (mP mI (mP mI (mP mI mA)))))) (iChest_setWear a1_j a2_j a3_j v_changes_j v_grain_j v_isMatched_j v_limit_j v_lost_j v_fits_j) (pChest_setWear a1 a2 a3 v_changes v_grain v_isMatched v_limit v_lost v_fits) := by
  subst t_a1
  subst t_a2
  subst t_a3
  subst t_v_changes
  subst t_v_grain
  subst t_v_isMatched
  subst t_v_limit
  subst t_v_lost
  subst t_v_fits
  unfold iChest_setWear pChest_setWear
  refine tl_ite (jc_lt (Eq.refl (mI a1)) jlitI_0) ?_ ?_
  · exact (tl_some (jp2 jlitI_0 (jp2 (Eq.refl (mI v_changes)) (jp2 (Eq.refl (mI v_grain)) (jp2 (Eq.refl (mI v_isMatched)) (jp2 (Eq.refl (mI v_limit)) (jp2 (Eq.refl (mI v_lost)) (Eq.refl (mA v_fits)))))))))
  · refine tl_ite (jc_lt jlitI_20 (Eq.refl (mI a1))) ?_ ?_
    · exact (tl_some (jp2 jlitI_0 (jp2 (Eq.refl (mI v_changes)) (jp2 (Eq.refl (mI v_grain)) (jp2 (Eq.refl (mI v_isMatched)) (jp2 (Eq.refl (mI v_limit)) (jp2 (Eq.refl (mI v_lost)) (Eq.refl (mA v_fits)))))))))
    · refine tl_ite (jc_lt (Eq.refl (mI a2)) jlitI_1) ?_ ?_
      · exact (tl_some (jp2 jlitI_0 (jp2 (Eq.refl (mI v_changes)) (jp2 (Eq.refl (mI v_grain)) (jp2 (Eq.refl (mI v_isMatched)) (jp2 (Eq.refl (mI v_limit)) (jp2 (Eq.refl (mI v_lost)) (Eq.refl (mA v_fits)))))))))
      · refine tl_ite (jc_lt jlitI_100 (Eq.refl (mI a2))) ?_ ?_
        · exact (tl_some (jp2 jlitI_0 (jp2 (Eq.refl (mI v_changes)) (jp2 (Eq.refl (mI v_grain)) (jp2 (Eq.refl (mI v_isMatched)) (jp2 (Eq.refl (mI v_limit)) (jp2 (Eq.refl (mI v_lost)) (Eq.refl (mA v_fits)))))))))
        · refine tl_ite (jc_lt (Eq.refl (mI a3)) jlitI_0) ?_ ?_
          · exact (tl_some (jp2 jlitI_0 (jp2 (Eq.refl (mI v_changes)) (jp2 (Eq.refl (mI v_grain)) (jp2 (Eq.refl (mI v_isMatched)) (jp2 (Eq.refl (mI v_limit)) (jp2 (Eq.refl (mI v_lost)) (Eq.refl (mA v_fits)))))))))
          · refine tl_ite (jc_le (Eq.refl (mI a3)) jlitI_500) ?_ ?_
            · refine tl_ite (jc_eq (Eq.refl (mI a1)) (Eq.refl (mI v_grain))) ?_ ?_
              · refine tl_ite (jc_eq (Eq.refl (mI a2)) (Eq.refl (mI v_lost))) ?_ ?_
                · exact (t_pChest_setWear_b59 (Eq.refl (mI a1)) (Eq.refl (mI a2)) (Eq.refl (mI a3)) (Eq.refl (mI v_changes)) (Eq.refl (mI v_grain)) (Eq.refl (mI v_isMatched)) (Eq.refl (mI v_limit)) (Eq.refl (mI v_lost)) (Eq.refl (mA v_fits)))
                · exact (t_pChest_setWear_b50 (Eq.refl (mI a1)) (Eq.refl (mI a2)) (Eq.refl (mI a3)) (Eq.refl (mI v_changes)) (Eq.refl (mI v_grain)) (Eq.refl (mI v_isMatched)) (Eq.refl (mI v_limit)) (Eq.refl (mI v_lost)) (Eq.refl (mA v_fits)))
              · exact (t_pChest_setWear_b50 (Eq.refl (mI a1)) (Eq.refl (mI a2)) (Eq.refl (mI a3)) (Eq.refl (mI v_changes)) (Eq.refl (mI v_grain)) (Eq.refl (mI v_isMatched)) (Eq.refl (mI v_limit)) (Eq.refl (mI v_lost)) (Eq.refl (mA v_fits)))
            · exact (tl_some (jp2 jlitI_0 (jp2 (Eq.refl (mI v_changes)) (jp2 (Eq.refl (mI v_grain)) (jp2 (Eq.refl (mI v_isMatched)) (jp2 (Eq.refl (mI v_limit)) (jp2 (Eq.refl (mI v_lost)) (Eq.refl (mA v_fits)))))))))
theorem t_pChest_pairCost {a1 : Int32} {a1_j : Int} (t_a1 : mI a1 = a1_j) {a2 : Int32} {a2_j : Int} (t_a2 : mI a2 = a2_j) {v_grain : Int32} {v_grain_j : Int} (t_v_grain : mI v_grain = v_grain_j) {v_places : (Nat → Int32)} {v_places_j : (Nat → Int)} (t_v_places : mA v_places = v_places_j) {v_worths : (Nat → Int32)} {v_worths_j : (Nat → Int)} (t_v_worths : mA v_worths = v_worths_j) : tl (mI) (iChest_pairCost a1_j a2_j v_grain_j v_places_j v_worths_j) (pChest_pairCost a1 a2 v_grain v_places v_worths) := by
  subst t_a1
  subst t_a2
  subst t_v_grain
  subst t_v_places
  subst t_v_worths
  unfold iChest_pairCost pChest_pairCost
  refine tl_gd (jg_ib (Eq.refl (mI a1))) (fun _ => ?_)
  refine tl_gd (jg_ib (Eq.refl (mI a2))) (fun _ => ?_)
  refine tl_ite (jc_eq (jrd (Eq.refl (mA v_worths)) (jx (Eq.refl (mI a1)))) (jrd (Eq.refl (mA v_worths)) (jx (Eq.refl (mI a2))))) ?_ ?_
  · refine tl_g (fun h1 => ?_)
    refine tl_g (fun h2 => ?_)
    refine tl_ite (jc_lt (Eq.refl (mI v_grain)) (ja_abs (ja_sub (jrd (Eq.refl (mA v_places)) (jx (Eq.refl (mI a1)))) (jrd (Eq.refl (mA v_places)) (jx (Eq.refl (mI a2)))) h1) h2)) ?_ ?_
    · exact (tl_some jlitI_m1)
    · exact (tl_some (ja_abs (ja_sub (jrd (Eq.refl (mA v_places)) (jx (Eq.refl (mI a1)))) (jrd (Eq.refl (mA v_places)) (jx (Eq.refl (mI a2)))) h1) h2))
  · exact (tl_some jlitI_m1)
theorem t_pChest_leastCost_b2_F {N N_j : Nat} (t_N : N = N_j) {a1 : Int32} {a1_j : Int} (t_a1 : mI a1 = a1_j) {a2 : Int32} {a2_j : Int} (t_a2 : mI a2 = a2_j) {v_grain : Int32} {v_grain_j : Int} (t_v_grain : mI v_grain = v_grain_j) {v_lost : Int32} {v_lost_j : Int} (t_v_lost : mI v_lost = v_lost_j) {v_places : (Nat → Int32)} {v_places_j : (Nat → Int)} (t_v_places : mA v_places = v_places_j) {v_sizes : (Nat → Int32)} {v_sizes_j : (Nat → Int)} (t_v_sizes : mA v_sizes = v_sizes_j) {v_worths : (Nat → Int32)} {v_worths_j : (Nat → Int)} (t_v_worths : mA v_worths = v_worths_j) {v_above : (Nat → Int32)} {v_above_j : (Nat → Int)} (t_v_above : mA v_above = v_above_j) {k30 : (Nat → Int32) → Option R_pChest_leastCost} {k30_j : (Nat → Int) → Option R_iChest_leastCost} (t_k30 : ∀ (q0_ : (Nat → Int32)), tl (mP mI (mP mA mA)) (k30_j (mA q0_)) (k30 q0_)) {self : Int32 → (Nat → Int32) → Option R_pChest_leastCost} {self_j : Int → (Nat → Int) → Option R_iChest_leastCost} (t_self : ∀ (q0_ : Int32) (q1_ : (Nat → Int32)), tl (mP mI (mP mA mA)) (self_j (mI q0_) (mA q1_)) (self q0_ q1_)) {x3 : Int32} {x3_j : Int} (t_x3 : mI x3 = x3_j) {v_row : (Nat → Int32)} {v_row_j : (Nat → Int)} (t_v_row : mA v_row = v_row_j) : tl (mP mI (mP mA mA)) (iChest_leastCost_b2_F N_j a1_j a2_j v_grain_j v_lost_j v_places_j v_sizes_j v_worths_j v_above_j k30_j self_j x3_j v_row_j) (pChest_leastCost_b2_F N a1 a2 v_grain v_lost v_places v_sizes v_worths v_above k30 self x3 v_row) := by
  subst t_N
  subst t_a1
  subst t_a2
  subst t_v_grain
  subst t_v_lost
  subst t_v_places
  subst t_v_sizes
  subst t_v_worths
  subst t_v_above
  subst t_x3
  subst t_v_row
  unfold iChest_leastCost_b2_F pChest_leastCost_b2_F
  refine tl_gd (jg_ib (Eq.refl (mI a2))) (fun _ => ?_)
  refine tl_ite (jc_lt (jrd (Eq.refl (mA v_sizes)) (jx (Eq.refl (mI a2)))) (Eq.refl (mI x3))) ?_ ?_
  · exact (tl_e1 (Eq.refl (mA v_row)) (t_k30 _))
  · refine tl_gd (jg_ib (Eq.refl (mI x3))) (fun _ => ?_)
    refine tl_g (fun h1 => ?_)
    refine tl_g (fun h2 => ?_)
    exact (tl_e2 (ja_add (Eq.refl (mI x3)) jlitI_1 h1) (jupA (Eq.refl (mA v_row)) (jx (Eq.refl (mI x3))) (ja_mul (Eq.refl (mI x3)) (Eq.refl (mI v_lost)) h2)) (t_self _ _))
theorem t_pChest_leastCost_b2 {N N_j : Nat} (t_N : N = N_j) {a1 : Int32} {a1_j : Int} (t_a1 : mI a1 = a1_j) {a2 : Int32} {a2_j : Int} (t_a2 : mI a2 = a2_j) {v_grain : Int32} {v_grain_j : Int} (t_v_grain : mI v_grain = v_grain_j) {v_lost : Int32} {v_lost_j : Int} (t_v_lost : mI v_lost = v_lost_j) {v_places : (Nat → Int32)} {v_places_j : (Nat → Int)} (t_v_places : mA v_places = v_places_j) {v_sizes : (Nat → Int32)} {v_sizes_j : (Nat → Int)} (t_v_sizes : mA v_sizes = v_sizes_j) {v_worths : (Nat → Int32)} {v_worths_j : (Nat → Int)} (t_v_worths : mA v_worths = v_worths_j) {v_above : (Nat → Int32)} {v_above_j : (Nat → Int)} (t_v_above : mA v_above = v_above_j) {k30 : (Nat → Int32) → Option R_pChest_leastCost} {k30_j : (Nat → Int) → Option R_iChest_leastCost} (t_k30 : ∀ (q0_ : (Nat → Int32)), tl (mP mI (mP mA mA)) (k30_j (mA q0_)) (k30 q0_)) {n n_j : Nat} (t_n : n = n_j) {w0_ : Int32} {w0__j : Int} (t_w0_ : mI w0_ = w0__j) {w1_ : (Nat → Int32)} {w1__j : (Nat → Int)} (t_w1_ : mA w1_ = w1__j) : tl (mP mI (mP mA mA)) (iChest_leastCost_b2 N_j a1_j a2_j v_grain_j v_lost_j v_places_j v_sizes_j v_worths_j v_above_j k30_j n_j w0__j w1__j) (pChest_leastCost_b2 N a1 a2 v_grain v_lost v_places v_sizes v_worths v_above k30 n w0_ w1_) := by
  subst t_N
  subst t_a1
  subst t_a2
  subst t_v_grain
  subst t_v_lost
  subst t_v_places
  subst t_v_sizes
  subst t_v_worths
  subst t_v_above
  subst t_n
  subst t_w0_
  subst t_w1_
  exact tl_zlp2 (fun s2 s hs w0_ w1_ => t_pChest_leastCost_b2_F (Eq.refl N) (Eq.refl (mI a1)) (Eq.refl (mI a2)) (Eq.refl (mI v_grain)) (Eq.refl (mI v_lost)) (Eq.refl (mA v_places)) (Eq.refl (mA v_sizes)) (Eq.refl (mA v_worths)) (Eq.refl (mA v_above)) t_k30 hs (Eq.refl (mI w0_)) (Eq.refl (mA w1_))) n w0_ w1_
theorem t_pChest_leastCost_b170 {N N_j : Nat} (t_N : N = N_j) {a1 : Int32} {a1_j : Int} (t_a1 : mI a1 = a1_j) {a2 : Int32} {a2_j : Int} (t_a2 : mI a2 = a2_j) {v_grain : Int32} {v_grain_j : Int} (t_v_grain : mI v_grain = v_grain_j) {v_lost : Int32} {v_lost_j : Int} (t_v_lost : mI v_lost = v_lost_j) {v_places : (Nat → Int32)} {v_places_j : (Nat → Int)} (t_v_places : mA v_places = v_places_j) {v_sizes : (Nat → Int32)} {v_sizes_j : (Nat → Int)} (t_v_sizes : mA v_sizes = v_sizes_j) {v_worths : (Nat → Int32)} {v_worths_j : (Nat → Int)} (t_v_worths : mA v_worths = v_worths_j) {self : Int32 → (Nat → Int32) → Option R_pChest_leastCost} {self_j : Int → (Nat → Int) → Option R_iChest_leastCost} (t_self : ∀ (q0_ : Int32) (q1_ : (Nat → Int32)), tl (mP mI (mP mA mA)) (self_j (mI q0_) (mA q1_)) (self q0_ q1_)) {k177 : (Nat → Int32) → Option R_pChest_leastCost} {k177_j : (Nat → Int) → Option R_iChest_leastCost} (t_k177 : ∀ (q0_ : (Nat → Int32)), tl (mP mI (mP mA mA)) (k177_j (mA q0_)) (k177 q0_)) {x3 : Int32} {x3_j : Int} (t_x3 : mI x3 = x3_j) {x4 : Int32} {x4_j : Int} (t_x4 : mI x4 = x4_j) {s1 : Int32} {s1_j : Int} (t_s1 : mI s1 = s1_j) {s2 : Int32} {s2_j : Int} (t_s2 : mI s2 = s2_j) {v_above : (Nat → Int32)} {v_above_j : (Nat → Int)} (t_v_above : mA v_above = v_above_j) {v_row : (Nat → Int32)} {v_row_j : (Nat → Int)} (t_v_row : mA v_row = v_row_j) : tl (mP mI (mP mA mA)) (iChest_leastCost_b170 N_j a1_j a2_j v_grain_j v_lost_j v_places_j v_sizes_j v_worths_j self_j k177_j x3_j x4_j s1_j s2_j v_above_j v_row_j) (pChest_leastCost_b170 N a1 a2 v_grain v_lost v_places v_sizes v_worths self k177 x3 x4 s1 s2 v_above v_row) := by
  subst t_N
  subst t_a1
  subst t_a2
  subst t_v_grain
  subst t_v_lost
  subst t_v_places
  subst t_v_sizes
  subst t_v_worths
  subst t_x3
  subst t_x4
  subst t_s1
  subst t_s2
  subst t_v_above
  subst t_v_row
  unfold iChest_leastCost_b170 pChest_leastCost_b170
  refine tl_gd (jg_ib (Eq.refl (mI s1))) (fun _ => ?_)
  refine tl_g (fun h1 => ?_)
  exact (tl_e2 (ja_add (Eq.refl (mI x4)) jlitI_1 h1) (jupA (Eq.refl (mA v_row)) (jx (Eq.refl (mI s1))) (Eq.refl (mI s2))) (t_self _ _))
theorem t_pChest_leastCost_b80_F {N N_j : Nat} (t_N : N = N_j) {a1 : Int32} {a1_j : Int} (t_a1 : mI a1 = a1_j) {a2 : Int32} {a2_j : Int} (t_a2 : mI a2 = a2_j) {v_grain : Int32} {v_grain_j : Int} (t_v_grain : mI v_grain = v_grain_j) {v_lost : Int32} {v_lost_j : Int} (t_v_lost : mI v_lost = v_lost_j) {v_places : (Nat → Int32)} {v_places_j : (Nat → Int)} (t_v_places : mA v_places = v_places_j) {v_sizes : (Nat → Int32)} {v_sizes_j : (Nat → Int)} (t_v_sizes : mA v_sizes = v_sizes_j) {v_worths : (Nat → Int32)} {v_worths_j : (Nat → Int)} (t_v_worths : mA v_worths = v_worths_j) {x3 : Int32} {x3_j : Int} (t_x3 : mI x3 = x3_j) {v_above : (Nat → Int32)} {v_above_j : (Nat → Int)} (t_v_above : mA v_above = v_above_j) {k177 : (Nat → Int32) → Option R_pChest_leastCost} {k177_j : (Nat → Int) → Option R_iChest_leastCost} (t_k177 : ∀ (q0_ : (Nat → Int32)), tl (mP mI (mP mA mA)) (k177_j (mA q0_)) (k177 q0_)) {self : Int32 → (Nat → Int32) → Option R_pChest_leastCost} {self_j : Int → (Nat → Int) → Option R_iChest_leastCost} (t_self : ∀ (q0_ : Int32) (q1_ : (Nat → Int32)), tl (mP mI (mP mA mA)) (self_j (mI q0_) (mA q1_)) (self q0_ q1_)) {x4 : Int32} {x4_j : Int} (t_x4 : mI x4 = x4_j) {v_row : (Nat → Int32)} {v_row_j : (Nat → Int)} (t_v_row : mA v_row = v_row_j) : tl (mP mI (mP mA mA)) (iChest_leastCost_b80_F N_j a1_j a2_j v_grain_j v_lost_j v_places_j v_sizes_j v_worths_j x3_j v_above_j k177_j self_j x4_j v_row_j) (pChest_leastCost_b80_F N a1 a2 v_grain v_lost v_places v_sizes v_worths x3 v_above k177 self x4 v_row) := by
  subst t_N
  subst t_a1
  subst t_a2
  subst t_v_grain
  subst t_v_lost
  subst t_v_places
  subst t_v_sizes
  subst t_v_worths
  subst t_x3
  subst t_v_above
  subst t_x4
  subst t_v_row
  unfold iChest_leastCost_b80_F pChest_leastCost_b80_F
  refine tl_gd (jg_ib (Eq.refl (mI a2))) (fun _ => ?_)
  refine tl_ite (jc_le (jrd (Eq.refl (mA v_sizes)) (jx (Eq.refl (mI a2)))) (Eq.refl (mI x4))) ?_ ?_
  · exact (tl_e1 (Eq.refl (mA v_row)) (t_k177 _))
  · refine tl_g (fun h1 => ?_)
    refine tl_gd (jg_ib (ja_add (Eq.refl (mI x4)) jlitI_1 h1)) (fun _ => ?_)
    refine tl_gd (jg_ib (Eq.refl (mI x4))) (fun _ => ?_)
    refine tl_g (fun h2 => ?_)
    refine tl_g (fun h3 => ?_)
    refine tl_g (fun h4 => ?_)
    refine tl_g (fun h5 => ?_)
    refine tl_bd1 (t_pChest_pairCost (ja_add (ja_mul (Eq.refl (mI a1)) jlitI_12 h2) (Eq.refl (mI x3)) h3) (ja_add (ja_mul (Eq.refl (mI a2)) jlitI_12 h4) (Eq.refl (mI x4)) h5) (Eq.refl (mI v_grain)) (Eq.refl (mA v_places)) (Eq.refl (mA v_worths))) (fun rc9 => ?_)
    refine tl_ite (jc_eq (Eq.refl (mI rc9)) jlitI_m1) ?_ ?_
    · refine tl_g (fun h6 => ?_)
      exact (t_pChest_leastCost_b170 (Eq.refl N) (Eq.refl (mI a1)) (Eq.refl (mI a2)) (Eq.refl (mI v_grain)) (Eq.refl (mI v_lost)) (Eq.refl (mA v_places)) (Eq.refl (mA v_sizes)) (Eq.refl (mA v_worths)) t_self t_k177 (Eq.refl (mI x3)) (Eq.refl (mI x4)) (ja_add (Eq.refl (mI x4)) jlitI_1 h1) (ja_add (ja_min (jrd (Eq.refl (mA v_above)) (jx (ja_add (Eq.refl (mI x4)) jlitI_1 h1))) (jrd (Eq.refl (mA v_row)) (jx (Eq.refl (mI x4))))) (Eq.refl (mI v_lost)) h6) (Eq.refl (mA v_above)) (Eq.refl (mA v_row)))
    · refine tl_g (fun h7 => ?_)
      refine tl_g (fun h8 => ?_)
      exact (t_pChest_leastCost_b170 (Eq.refl N) (Eq.refl (mI a1)) (Eq.refl (mI a2)) (Eq.refl (mI v_grain)) (Eq.refl (mI v_lost)) (Eq.refl (mA v_places)) (Eq.refl (mA v_sizes)) (Eq.refl (mA v_worths)) t_self t_k177 (Eq.refl (mI x3)) (Eq.refl (mI x4)) (ja_add (Eq.refl (mI x4)) jlitI_1 h1) (ja_min (ja_add (ja_min (jrd (Eq.refl (mA v_above)) (jx (ja_add (Eq.refl (mI x4)) jlitI_1 h1))) (jrd (Eq.refl (mA v_row)) (jx (Eq.refl (mI x4))))) (Eq.refl (mI v_lost)) h7) (ja_add (jrd (Eq.refl (mA v_above)) (jx (Eq.refl (mI x4)))) (Eq.refl (mI rc9)) h8)) (Eq.refl (mA v_above)) (Eq.refl (mA v_row)))
theorem t_pChest_leastCost_b80 {N N_j : Nat} (t_N : N = N_j) {a1 : Int32} {a1_j : Int} (t_a1 : mI a1 = a1_j) {a2 : Int32} {a2_j : Int} (t_a2 : mI a2 = a2_j) {v_grain : Int32} {v_grain_j : Int} (t_v_grain : mI v_grain = v_grain_j) {v_lost : Int32} {v_lost_j : Int} (t_v_lost : mI v_lost = v_lost_j) {v_places : (Nat → Int32)} {v_places_j : (Nat → Int)} (t_v_places : mA v_places = v_places_j) {v_sizes : (Nat → Int32)} {v_sizes_j : (Nat → Int)} (t_v_sizes : mA v_sizes = v_sizes_j) {v_worths : (Nat → Int32)} {v_worths_j : (Nat → Int)} (t_v_worths : mA v_worths = v_worths_j) {x3 : Int32} {x3_j : Int} (t_x3 : mI x3 = x3_j) {v_above : (Nat → Int32)} {v_above_j : (Nat → Int)} (t_v_above : mA v_above = v_above_j) {k177 : (Nat → Int32) → Option R_pChest_leastCost} {k177_j : (Nat → Int) → Option R_iChest_leastCost} (t_k177 : ∀ (q0_ : (Nat → Int32)), tl (mP mI (mP mA mA)) (k177_j (mA q0_)) (k177 q0_)) {n n_j : Nat} (t_n : n = n_j) {w0_ : Int32} {w0__j : Int} (t_w0_ : mI w0_ = w0__j) {w1_ : (Nat → Int32)} {w1__j : (Nat → Int)} (t_w1_ : mA w1_ = w1__j) : tl (mP mI (mP mA mA)) (iChest_leastCost_b80 N_j a1_j a2_j v_grain_j v_lost_j v_places_j v_sizes_j v_worths_j x3_j v_above_j k177_j n_j w0__j w1__j) (pChest_leastCost_b80 N a1 a2 v_grain v_lost v_places v_sizes v_worths x3 v_above k177 n w0_ w1_) := by
  subst t_N
  subst t_a1
  subst t_a2
  subst t_v_grain
  subst t_v_lost
  subst t_v_places
  subst t_v_sizes
  subst t_v_worths
  subst t_x3
  subst t_v_above
  subst t_n
  subst t_w0_
  subst t_w1_
  exact tl_zlp2 (fun s2 s hs w0_ w1_ => t_pChest_leastCost_b80_F (Eq.refl N) (Eq.refl (mI a1)) (Eq.refl (mI a2)) (Eq.refl (mI v_grain)) (Eq.refl (mI v_lost)) (Eq.refl (mA v_places)) (Eq.refl (mA v_sizes)) (Eq.refl (mA v_worths)) (Eq.refl (mI x3)) (Eq.refl (mA v_above)) t_k177 hs (Eq.refl (mI w0_)) (Eq.refl (mA w1_))) n w0_ w1_
theorem t_pChest_leastCost_b177 {N N_j : Nat} (t_N : N = N_j) {a1 : Int32} {a1_j : Int} (t_a1 : mI a1 = a1_j) {a2 : Int32} {a2_j : Int} (t_a2 : mI a2 = a2_j) {v_grain : Int32} {v_grain_j : Int} (t_v_grain : mI v_grain = v_grain_j) {v_lost : Int32} {v_lost_j : Int} (t_v_lost : mI v_lost = v_lost_j) {v_places : (Nat → Int32)} {v_places_j : (Nat → Int)} (t_v_places : mA v_places = v_places_j) {v_sizes : (Nat → Int32)} {v_sizes_j : (Nat → Int)} (t_v_sizes : mA v_sizes = v_sizes_j) {v_worths : (Nat → Int32)} {v_worths_j : (Nat → Int)} (t_v_worths : mA v_worths = v_worths_j) {self : Int32 → (Nat → Int32) → (Nat → Int32) → Option R_pChest_leastCost} {self_j : Int → (Nat → Int) → (Nat → Int) → Option R_iChest_leastCost} (t_self : ∀ (q0_ : Int32) (q1_ : (Nat → Int32)) (q2_ : (Nat → Int32)), tl (mP mI (mP mA mA)) (self_j (mI q0_) (mA q1_) (mA q2_)) (self q0_ q1_ q2_)) {x3 : Int32} {x3_j : Int} (t_x3 : mI x3 = x3_j) {v_above : (Nat → Int32)} {v_above_j : (Nat → Int)} (t_v_above : mA v_above = v_above_j) {v_row : (Nat → Int32)} {v_row_j : (Nat → Int)} (t_v_row : mA v_row = v_row_j) : tl (mP mI (mP mA mA)) (iChest_leastCost_b177 N_j a1_j a2_j v_grain_j v_lost_j v_places_j v_sizes_j v_worths_j self_j x3_j v_above_j v_row_j) (pChest_leastCost_b177 N a1 a2 v_grain v_lost v_places v_sizes v_worths self x3 v_above v_row) := by
  subst t_N
  subst t_a1
  subst t_a2
  subst t_v_grain
  subst t_v_lost
  subst t_v_places
  subst t_v_sizes
  subst t_v_worths
  subst t_x3
  subst t_v_above
  subst t_v_row
  unfold iChest_leastCost_b177 pChest_leastCost_b177
  refine tl_g (fun h1 => ?_)
  exact (tl_e3 (ja_add (Eq.refl (mI x3)) jlitI_1 h1) (Eq.refl (mA v_above)) (Eq.refl (mA v_row)) (t_self _ _ _))
theorem t_pChest_leastCost_b32_F {N N_j : Nat} (t_N : N = N_j) {a1 : Int32} {a1_j : Int} (t_a1 : mI a1 = a1_j) {a2 : Int32} {a2_j : Int} (t_a2 : mI a2 = a2_j) {v_grain : Int32} {v_grain_j : Int} (t_v_grain : mI v_grain = v_grain_j) {v_lost : Int32} {v_lost_j : Int} (t_v_lost : mI v_lost = v_lost_j) {v_places : (Nat → Int32)} {v_places_j : (Nat → Int)} (t_v_places : mA v_places = v_places_j) {v_sizes : (Nat → Int32)} {v_sizes_j : (Nat → Int)} (t_v_sizes : mA v_sizes = v_sizes_j) {v_worths : (Nat → Int32)} {v_worths_j : (Nat → Int)} (t_v_worths : mA v_worths = v_worths_j) {self : Int32 → (Nat → Int32) → (Nat → Int32) → Option R_pChest_leastCost} {self_j : Int → (Nat → Int) → (Nat → Int) → Option R_iChest_leastCost} (t_self : ∀ (q0_ : Int32) (q1_ : (Nat → Int32)) (q2_ : (Nat → Int32)), tl (mP mI (mP mA mA)) (self_j (mI q0_) (mA q1_) (mA q2_)) (self q0_ q1_ q2_)) {x3 : Int32} {x3_j : Int} (t_x3 : mI x3 = x3_j) {v_above : (Nat → Int32)} {v_above_j : (Nat → Int)} (t_v_above : mA v_above = v_above_j) {v_row : (Nat → Int32)} {v_row_j : (Nat → Int)} (t_v_row : mA v_row = v_row_j) : tl (mP mI (mP mA mA)) (iChest_leastCost_b32_F N_j a1_j a2_j v_grain_j v_lost_j v_places_j v_sizes_j v_worths_j self_j x3_j v_above_j v_row_j) (pChest_leastCost_b32_F N a1 a2 v_grain v_lost v_places v_sizes v_worths self x3 v_above v_row) := by
  subst t_N
  subst t_a1
  subst t_a2
  subst t_v_grain
  subst t_v_lost
  subst t_v_places
  subst t_v_sizes
  subst t_v_worths
  subst t_x3
  subst t_v_above
  subst t_v_row
  unfold iChest_leastCost_b32_F pChest_leastCost_b32_F
  refine tl_gd (jg_ib (Eq.refl (mI a1))) (fun _ => ?_)
  refine tl_ite (jc_le (jrd (Eq.refl (mA v_sizes)) (jx (Eq.refl (mI a1)))) (Eq.refl (mI x3))) ?_ ?_
  · refine tl_gd (jg_ib (Eq.refl (mI a2))) (fun _ => ?_)
    refine tl_gd (jg_ib (jrd (Eq.refl (mA v_sizes)) (jx (Eq.refl (mI a2))))) (fun _ => ?_)
    exact (tl_some (jp2 (jrd (Eq.refl (mA v_row)) (jx (jrd (Eq.refl (mA v_sizes)) (jx (Eq.refl (mI a2)))))) (jp2 (Eq.refl (mA v_above)) (Eq.refl (mA v_row)))))
  · refine tl_g (fun h1 => ?_)
    exact (t_pChest_leastCost_b80 (Eq.refl N) (Eq.refl (mI a1)) (Eq.refl (mI a2)) (Eq.refl (mI v_grain)) (Eq.refl (mI v_lost)) (Eq.refl (mA v_places)) (Eq.refl (mA v_sizes)) (Eq.refl (mA v_worths)) (Eq.refl (mI x3)) (jcpA (Eq.refl (mA v_row)) (Eq.refl (mA v_above)) (jx jlitI_0) (jx jlitI_0) (jx jlitI_13)) (fun e11_ => by exact (t_pChest_leastCost_b177 (Eq.refl N) (Eq.refl (mI a1)) (Eq.refl (mI a2)) (Eq.refl (mI v_grain)) (Eq.refl (mI v_lost)) (Eq.refl (mA v_places)) (Eq.refl (mA v_sizes)) (Eq.refl (mA v_worths)) t_self (Eq.refl (mI x3)) (jcpA (Eq.refl (mA v_row)) (Eq.refl (mA v_above)) (jx jlitI_0) (jx jlitI_0) (jx jlitI_13)) (Eq.refl (mA e11_)))) (Eq.refl N) jlitI_0 (jupA (Eq.refl (mA v_row)) (jx jlitI_0) (ja_add (jrd (jcpA (Eq.refl (mA v_row)) (Eq.refl (mA v_above)) (jx jlitI_0) (jx jlitI_0) (jx jlitI_13)) (jx jlitI_0)) (Eq.refl (mI v_lost)) h1)))
theorem t_pChest_leastCost_b32 {N N_j : Nat} (t_N : N = N_j) {a1 : Int32} {a1_j : Int} (t_a1 : mI a1 = a1_j) {a2 : Int32} {a2_j : Int} (t_a2 : mI a2 = a2_j) {v_grain : Int32} {v_grain_j : Int} (t_v_grain : mI v_grain = v_grain_j) {v_lost : Int32} {v_lost_j : Int} (t_v_lost : mI v_lost = v_lost_j) {v_places : (Nat → Int32)} {v_places_j : (Nat → Int)} (t_v_places : mA v_places = v_places_j) {v_sizes : (Nat → Int32)} {v_sizes_j : (Nat → Int)} (t_v_sizes : mA v_sizes = v_sizes_j) {v_worths : (Nat → Int32)} {v_worths_j : (Nat → Int)} (t_v_worths : mA v_worths = v_worths_j) {n n_j : Nat} (t_n : n = n_j) {w0_ : Int32} {w0__j : Int} (t_w0_ : mI w0_ = w0__j) {w1_ : (Nat → Int32)} {w1__j : (Nat → Int)} (t_w1_ : mA w1_ = w1__j) {w2_ : (Nat → Int32)} {w2__j : (Nat → Int)} (t_w2_ : mA w2_ = w2__j) : tl (mP mI (mP mA mA)) (iChest_leastCost_b32 N_j a1_j a2_j v_grain_j v_lost_j v_places_j v_sizes_j v_worths_j n_j w0__j w1__j w2__j) (pChest_leastCost_b32 N a1 a2 v_grain v_lost v_places v_sizes v_worths n w0_ w1_ w2_) := by
  subst t_N
  subst t_a1
  subst t_a2
  subst t_v_grain
  subst t_v_lost
  subst t_v_places
  subst t_v_sizes
  subst t_v_worths
  subst t_n
  subst t_w0_
  subst t_w1_
  subst t_w2_
  exact tl_zlp3 (fun s2 s hs w0_ w1_ w2_ => t_pChest_leastCost_b32_F (Eq.refl N) (Eq.refl (mI a1)) (Eq.refl (mI a2)) (Eq.refl (mI v_grain)) (Eq.refl (mI v_lost)) (Eq.refl (mA v_places)) (Eq.refl (mA v_sizes)) (Eq.refl (mA v_worths)) hs (Eq.refl (mI w0_)) (Eq.refl (mA w1_)) (Eq.refl (mA w2_))) n w0_ w1_ w2_
theorem t_pChest_leastCost_b30 {N N_j : Nat} (t_N : N = N_j) {a1 : Int32} {a1_j : Int} (t_a1 : mI a1 = a1_j) {a2 : Int32} {a2_j : Int} (t_a2 : mI a2 = a2_j) {v_grain : Int32} {v_grain_j : Int} (t_v_grain : mI v_grain = v_grain_j) {v_lost : Int32} {v_lost_j : Int} (t_v_lost : mI v_lost = v_lost_j) {v_places : (Nat → Int32)} {v_places_j : (Nat → Int)} (t_v_places : mA v_places = v_places_j) {v_sizes : (Nat → Int32)} {v_sizes_j : (Nat → Int)} (t_v_sizes : mA v_sizes = v_sizes_j) {v_worths : (Nat → Int32)} {v_worths_j : (Nat → Int)} (t_v_worths : mA v_worths = v_worths_j) {v_above : (Nat → Int32)} {v_above_j : (Nat → Int)} (t_v_above : mA v_above = v_above_j) {v_row : (Nat → Int32)} {v_row_j : (Nat → Int)} (t_v_row : mA v_row = v_row_j) : tl (mP mI (mP mA mA)) (iChest_leastCost_b30 N_j a1_j a2_j v_grain_j v_lost_j v_places_j v_sizes_j v_worths_j v_above_j v_row_j) (pChest_leastCost_b30 N a1 a2 v_grain v_lost v_places v_sizes v_worths v_above v_row) := by
  subst t_N
  subst t_a1
  subst t_a2
  subst t_v_grain
  subst t_v_lost
  subst t_v_places
  subst t_v_sizes
  subst t_v_worths
  subst t_v_above
  subst t_v_row
  unfold iChest_leastCost_b30 pChest_leastCost_b30
  exact (t_pChest_leastCost_b32 (Eq.refl N) (Eq.refl (mI a1)) (Eq.refl (mI a2)) (Eq.refl (mI v_grain)) (Eq.refl (mI v_lost)) (Eq.refl (mA v_places)) (Eq.refl (mA v_sizes)) (Eq.refl (mA v_worths)) (Eq.refl N) jlitI_0 (Eq.refl (mA v_above)) (Eq.refl (mA v_row)))
theorem t_pChest_leastCost {N N_j : Nat} (t_N : N = N_j) {a1 : Int32} {a1_j : Int} (t_a1 : mI a1 = a1_j) {a2 : Int32} {a2_j : Int} (t_a2 : mI a2 = a2_j) {v_grain : Int32} {v_grain_j : Int} (t_v_grain : mI v_grain = v_grain_j) {v_lost : Int32} {v_lost_j : Int} (t_v_lost : mI v_lost = v_lost_j) {v_above : (Nat → Int32)} {v_above_j : (Nat → Int)} (t_v_above : mA v_above = v_above_j) {v_places : (Nat → Int32)} {v_places_j : (Nat → Int)} (t_v_places : mA v_places = v_places_j) {v_row : (Nat → Int32)} {v_row_j : (Nat → Int)} (t_v_row : mA v_row = v_row_j) {v_sizes : (Nat → Int32)} {v_sizes_j : (Nat → Int)} (t_v_sizes : mA v_sizes = v_sizes_j) {v_worths : (Nat → Int32)} {v_worths_j : (Nat → Int)} (t_v_worths : mA v_worths = v_worths_j) : tl (mP mI (mP mA mA)) (iChest_leastCost N_j a1_j a2_j v_grain_j v_lost_j v_above_j v_places_j v_row_j v_sizes_j v_worths_j) (pChest_leastCost N a1 a2 v_grain v_lost v_above v_places v_row v_sizes v_worths) := by
  subst t_N
  subst t_a1
  subst t_a2
  subst t_v_grain
  subst t_v_lost
  subst t_v_above
  subst t_v_places
  subst t_v_row
  subst t_v_sizes
  subst t_v_worths
  unfold iChest_leastCost pChest_leastCost
  exact (t_pChest_leastCost_b2 (Eq.refl N) (Eq.refl (mI a1)) (Eq.refl (mI a2)) (Eq.refl (mI v_grain)) (Eq.refl (mI v_lost)) (Eq.refl (mA v_places)) (Eq.refl (mA v_sizes)) (Eq.refl (mA v_worths)) (Eq.refl (mA v_above)) (fun e9_ => by exact (t_pChest_leastCost_b30 (Eq.refl N) (Eq.refl (mI a1)) (Eq.refl (mI a2)) (Eq.refl (mI v_grain)) (Eq.refl (mI v_lost)) (Eq.refl (mA v_places)) (Eq.refl (mA v_sizes)) (Eq.refl (mA v_worths)) (Eq.refl (mA v_above)) (Eq.refl (mA e9_)))) (Eq.refl N) jlitI_0 (Eq.refl (mA v_row)))
theorem t_pChest_fitOf_b68 {N N_j : Nat} (t_N : N = N_j) {a1 : Int32} {a1_j : Int} (t_a1 : mI a1 = a1_j) {a2 : Int32} {a2_j : Int} (t_a2 : mI a2 = a2_j) {v_grain : Int32} {v_grain_j : Int} (t_v_grain : mI v_grain = v_grain_j) {v_lost : Int32} {v_lost_j : Int} (t_v_lost : mI v_lost = v_lost_j) {v_places : (Nat → Int32)} {v_places_j : (Nat → Int)} (t_v_places : mA v_places = v_places_j) {v_sizes : (Nat → Int32)} {v_sizes_j : (Nat → Int)} (t_v_sizes : mA v_sizes = v_sizes_j) {v_worths : (Nat → Int32)} {v_worths_j : (Nat → Int)} (t_v_worths : mA v_worths = v_worths_j) {x3 : Int32} {x3_j : Int} (t_x3 : mI x3 = x3_j) {v_above : (Nat → Int32)} {v_above_j : (Nat → Int)} (t_v_above : mA v_above = v_above_j) {v_fits : (Nat → Int32)} {v_fits_j : (Nat → Int)} (t_v_fits : mA v_fits = v_fits_j) {v_row : (Nat → Int32)} {v_row_j : (Nat → Int)} (t_v_row : mA v_row = v_row_j) : tl (mP mI (mP mA (mP mA mA))) (iChest_fitOf_b68 N_j a1_j a2_j v_grain_j v_lost_j v_places_j v_sizes_j v_worths_j x3_j v_above_j v_fits_j v_row_j) (pChest_fitOf_b68 N a1 a2 v_grain v_lost v_places v_sizes v_worths x3 v_above v_fits v_row) := by
  subst t_N
  subst t_a1
  subst t_a2
  subst t_v_grain
  subst t_v_lost
  subst t_v_places
  subst t_v_sizes
  subst t_v_worths
  subst t_x3
  subst t_v_above
  subst t_v_fits
  subst t_v_row
  unfold iChest_fitOf_b68 pChest_fitOf_b68
  refine tl_gd (jg_ib (Eq.refl (mI x3))) (fun _ => ?_)
  exact (tl_some (jp2 (jrd (Eq.refl (mA v_fits)) (jx (Eq.refl (mI x3)))) (jp2 (Eq.refl (mA v_above)) (jp2 (Eq.refl (mA v_fits)) (Eq.refl (mA v_row))))))
theorem t_pChest_fitOf {N N_j : Nat} (t_N : N = N_j) {a1 : Int32} {a1_j : Int} (t_a1 : mI a1 = a1_j) {a2 : Int32} {a2_j : Int} (t_a2 : mI a2 = a2_j) {v_grain : Int32} {v_grain_j : Int} (t_v_grain : mI v_grain = v_grain_j) {v_lost : Int32} {v_lost_j : Int} (t_v_lost : mI v_lost = v_lost_j) {v_above : (Nat → Int32)} {v_above_j : (Nat → Int)} (t_v_above : mA v_above = v_above_j) {v_fits : (Nat → Int32)} {v_fits_j : (Nat → Int)} (t_v_fits : mA v_fits = v_fits_j) {v_places : (Nat → Int32)} {v_places_j : (Nat → Int)} (t_v_places : mA v_places = v_places_j) {v_row : (Nat → Int32)} {v_row_j : (Nat → Int)} (t_v_row : mA v_row = v_row_j) {v_sizes : (Nat → Int32)} {v_sizes_j : (Nat → Int)} (t_v_sizes : mA v_sizes = v_sizes_j) {v_worths : (Nat → Int32)} {v_worths_j : (Nat → Int)} (t_v_worths : mA v_worths = v_worths_j) : tl (mP mI (mP mA (mP mA mA))) (iChest_fitOf N_j a1_j a2_j v_grain_j v_lost_j v_above_j v_fits_j v_places_j v_row_j v_sizes_j v_worths_j) (pChest_fitOf N a1 a2 v_grain v_lost v_above v_fits v_places v_row v_sizes v_worths) := by
  subst t_N
  subst t_a1
  subst t_a2
  subst t_v_grain
  subst t_v_lost
  subst t_v_above
  subst t_v_fits
  subst t_v_places
  subst t_v_row
  subst t_v_sizes
  subst t_v_worths
  unfold iChest_fitOf pChest_fitOf
  refine tl_bd1 (t_pK_isStick (Eq.refl (mI a1))) (fun rc1 => ?_)
  refine tl_ite (jc_eq (Eq.refl (mI rc1)) jlitI_0) ?_ ?_
  · exact (tl_some (jp2 jlitI_m1 (jp2 (Eq.refl (mA v_above)) (jp2 (Eq.refl (mA v_fits)) (Eq.refl (mA v_row))))))
  · refine tl_bd1 (t_pK_isStick (Eq.refl (mI a2))) (fun rc2 => ?_)
    refine tl_ite (jc_eq (Eq.refl (mI rc2)) jlitI_0) ?_ ?_
    · exact (tl_some (jp2 jlitI_m1 (jp2 (Eq.refl (mA v_above)) (jp2 (Eq.refl (mA v_fits)) (Eq.refl (mA v_row))))))
    · refine tl_bd1 (t_pChest_isThere (Eq.refl (mI a1)) (Eq.refl (mA v_sizes))) (fun rc3 => ?_)
      refine tl_ite (jc_eq (Eq.refl (mI rc3)) jlitI_0) ?_ ?_
      · exact (tl_some (jp2 jlitI_m1 (jp2 (Eq.refl (mA v_above)) (jp2 (Eq.refl (mA v_fits)) (Eq.refl (mA v_row))))))
      · refine tl_g (fun h1 => ?_)
        refine tl_bd1 (t_pChest_isThere (ja_add jlitI_10 (Eq.refl (mI a2)) h1) (Eq.refl (mA v_sizes))) (fun rc4 => ?_)
        refine tl_ite (jc_eq (Eq.refl (mI rc4)) jlitI_0) ?_ ?_
        · exact (tl_some (jp2 jlitI_m1 (jp2 (Eq.refl (mA v_above)) (jp2 (Eq.refl (mA v_fits)) (Eq.refl (mA v_row))))))
        · refine tl_g (fun h2 => ?_)
          refine tl_g (fun h3 => ?_)
          refine tl_gd (jg_ib (ja_add (ja_mul (Eq.refl (mI a1)) jlitI_10 h2) (Eq.refl (mI a2)) h3)) (fun _ => ?_)
          refine tl_ite (jc_eq (jrd (Eq.refl (mA v_fits)) (jx (ja_add (ja_mul (Eq.refl (mI a1)) jlitI_10 h2) (Eq.refl (mI a2)) h3))) jlitI_m2) ?_ ?_
          · refine tl_bd3 (t_pChest_leastCost (Eq.refl N) (Eq.refl (mI a1)) (ja_add jlitI_10 (Eq.refl (mI a2)) h1) (Eq.refl (mI v_grain)) (Eq.refl (mI v_lost)) (Eq.refl (mA v_above)) (Eq.refl (mA v_places)) (Eq.refl (mA v_row)) (Eq.refl (mA v_sizes)) (Eq.refl (mA v_worths))) (fun rc6 v_above_c6 v_row_c6 => ?_)
            exact (t_pChest_fitOf_b68 (Eq.refl N) (Eq.refl (mI a1)) (Eq.refl (mI a2)) (Eq.refl (mI v_grain)) (Eq.refl (mI v_lost)) (Eq.refl (mA v_places)) (Eq.refl (mA v_sizes)) (Eq.refl (mA v_worths)) (ja_add (ja_mul (Eq.refl (mI a1)) jlitI_10 h2) (Eq.refl (mI a2)) h3) (Eq.refl (mA v_above_c6)) (jupA (Eq.refl (mA v_fits)) (jx (ja_add (ja_mul (Eq.refl (mI a1)) jlitI_10 h2) (Eq.refl (mI a2)) h3)) (Eq.refl (mI rc6))) (Eq.refl (mA v_row_c6)))
          · exact (t_pChest_fitOf_b68 (Eq.refl N) (Eq.refl (mI a1)) (Eq.refl (mI a2)) (Eq.refl (mI v_grain)) (Eq.refl (mI v_lost)) (Eq.refl (mA v_places)) (Eq.refl (mA v_sizes)) (Eq.refl (mA v_worths)) (ja_add (ja_mul (Eq.refl (mI a1)) jlitI_10 h2) (Eq.refl (mI a2)) h3) (Eq.refl (mA v_above)) (Eq.refl (mA v_fits)) (Eq.refl (mA v_row)))
theorem t_pChest_matchAll_b25_F {N N_j : Nat} (t_N : N = N_j) {v_grain : Int32} {v_grain_j : Int} (t_v_grain : mI v_grain = v_grain_j) {v_limit : Int32} {v_limit_j : Int} (t_v_limit : mI v_limit = v_limit_j) {v_lost : Int32} {v_lost_j : Int} (t_v_lost : mI v_lost = v_lost_j) {v_places : (Nat → Int32)} {v_places_j : (Nat → Int)} (t_v_places : mA v_places = v_places_j) {v_sizes : (Nat → Int32)} {v_sizes_j : (Nat → Int)} (t_v_sizes : mA v_sizes = v_sizes_j) {v_worths : (Nat → Int32)} {v_worths_j : (Nat → Int)} (t_v_worths : mA v_worths = v_worths_j) {x1 : Int32} {x1_j : Int} (t_x1 : mI x1 = x1_j) {v_isMatched : Int32} {v_isMatched_j : Int} (t_v_isMatched : mI v_isMatched = v_isMatched_j) {v_goodWorths : (Nat → Int32)} {v_goodWorths_j : (Nat → Int)} (t_v_goodWorths : mA v_goodWorths = v_goodWorths_j) {v_matcher_cameFrom : (Nat → Int32)} {v_matcher_cameFrom_j : (Nat → Int)} (t_v_matcher_cameFrom : mA v_matcher_cameFrom = v_matcher_cameFrom_j) {v_matcher_columnPrices : (Nat → Int64)} {v_matcher_columnPrices_j : (Nat → Int)} (t_v_matcher_columnPrices : mL v_matcher_columnPrices = v_matcher_columnPrices_j) {v_matcher_gaps : (Nat → Int64)} {v_matcher_gaps_j : (Nat → Int)} (t_v_matcher_gaps : mL v_matcher_gaps = v_matcher_gaps_j) {v_matcher_isReached : (Nat → Int32)} {v_matcher_isReached_j : (Nat → Int)} (t_v_matcher_isReached : mA v_matcher_isReached = v_matcher_isReached_j) {v_matcher_mates : (Nat → Int32)} {v_matcher_mates_j : (Nat → Int)} (t_v_matcher_mates : mA v_matcher_mates = v_matcher_mates_j) {v_matcher_rowOf : (Nat → Int32)} {v_matcher_rowOf_j : (Nat → Int)} (t_v_matcher_rowOf : mA v_matcher_rowOf = v_matcher_rowOf_j) {v_matcher_rowPrices : (Nat → Int64)} {v_matcher_rowPrices_j : (Nat → Int)} (t_v_matcher_rowPrices : mL v_matcher_rowPrices = v_matcher_rowPrices_j) {k67 : (Nat → Int32) → (Nat → Int32) → (Nat → Nat → Int64) → (Nat → Int32) → Option R_pChest_matchAll} {k67_j : (Nat → Int) → (Nat → Int) → (Nat → Nat → Int) → (Nat → Int) → Option R_iChest_matchAll} (t_k67 : ∀ (q0_ : (Nat → Int32)) (q1_ : (Nat → Int32)) (q2_ : (Nat → Nat → Int64)) (q3_ : (Nat → Int32)), tl (mP mI (mP mA (mP mA (mP mA (mP mA (mP mL (mP mLL (mP mL (mP mA (mP mA (mP mA (mP mL mA)))))))))))) (k67_j (mA q0_) (mA q1_) (mLL q2_) (mA q3_)) (k67 q0_ q1_ q2_ q3_)) {self : Int32 → (Nat → Int32) → (Nat → Int32) → (Nat → Nat → Int64) → (Nat → Int32) → Option R_pChest_matchAll} {self_j : Int → (Nat → Int) → (Nat → Int) → (Nat → Nat → Int) → (Nat → Int) → Option R_iChest_matchAll} (t_self : ∀ (q0_ : Int32) (q1_ : (Nat → Int32)) (q2_ : (Nat → Int32)) (q3_ : (Nat → Nat → Int64)) (q4_ : (Nat → Int32)), tl (mP mI (mP mA (mP mA (mP mA (mP mA (mP mL (mP mLL (mP mL (mP mA (mP mA (mP mA (mP mL mA)))))))))))) (self_j (mI q0_) (mA q1_) (mA q2_) (mLL q3_) (mA q4_)) (self q0_ q1_ q2_ q3_ q4_)) {x2 : Int32} {x2_j : Int} (t_x2 : mI x2 = x2_j) {v_above : (Nat → Int32)} {v_above_j : (Nat → Int)} (t_v_above : mA v_above = v_above_j) {v_fits : (Nat → Int32)} {v_fits_j : (Nat → Int)} (t_v_fits : mA v_fits = v_fits_j) {v_matcher_costs : (Nat → Nat → Int64)} {v_matcher_costs_j : (Nat → Nat → Int)} (t_v_matcher_costs : mLL v_matcher_costs = v_matcher_costs_j) {v_row : (Nat → Int32)} {v_row_j : (Nat → Int)} (t_v_row : mA v_row = v_row_j) : tl (mP mI (mP mA (mP mA (mP mA (mP mA (mP mL (mP mLL (mP mL (mP mA (mP mA (mP mA (mP mL mA)))))))))))) (iChest_matchAll_b25_F N_j v_grain_j v_limit_j v_lost_j v_places_j v_sizes_j v_worths_j x1_j v_isMatched_j v_goodWorths_j v_matcher_cameFrom_j v_matcher_columnPrices_j v_matcher_gaps_j v_matcher_isReached_j v_matcher_mates_j v_matcher_rowOf_j v_matcher_rowPrices_j k67_j self_j x2_j v_above_j v_fits_j v_matcher_costs_j v_row_j) (pChest_matchAll_b25_F N v_grain v_limit v_lost v_places v_sizes v_worths x1 v_isMatched v_goodWorths v_matcher_cameFrom v_matcher_columnPrices v_matcher_gaps v_matcher_isReached v_matcher_mates v_matcher_rowOf v_matcher_rowPrices k67 self x2 v_above v_fits v_matcher_costs v_row) := by
  subst t_N
  subst t_v_grain
  subst t_v_limit
  subst t_v_lost
  subst t_v_places
  subst t_v_sizes
  subst t_v_worths
  subst t_x1
  subst t_v_isMatched
  subst t_v_goodWorths
  subst t_v_matcher_cameFrom
  subst t_v_matcher_columnPrices
  subst t_v_matcher_gaps
  subst t_v_matcher_isReached
  subst t_v_matcher_mates
  subst t_v_matcher_rowOf
  subst t_v_matcher_rowPrices
  subst t_x2
  subst t_v_above
  subst t_v_fits
  subst t_v_matcher_costs
  subst t_v_row
  unfold iChest_matchAll_b25_F pChest_matchAll_b25_F
  refine tl_ite (jc_le jlitI_10 (Eq.refl (mI x2))) ?_ ?_
  · exact (tl_e4 (Eq.refl (mA v_above)) (Eq.refl (mA v_fits)) (Eq.refl (mLL v_matcher_costs)) (Eq.refl (mA v_row)) (t_k67 _ _ _ _))
  · refine tl_bd4 (t_pChest_fitOf (Eq.refl N) (Eq.refl (mI x1)) (Eq.refl (mI x2)) (Eq.refl (mI v_grain)) (Eq.refl (mI v_lost)) (Eq.refl (mA v_above)) (Eq.refl (mA v_fits)) (Eq.refl (mA v_places)) (Eq.refl (mA v_row)) (Eq.refl (mA v_sizes)) (Eq.refl (mA v_worths))) (fun rc3 v_above_c3 v_fits_c3 v_row_c3 => ?_)
    refine tl_ite (jc_eq (Eq.refl (mI rc3)) jlitI_m1) ?_ ?_
    · refine tl_g (fun h1 => ?_)
      exact (tl_e5 (ja_add (Eq.refl (mI x2)) jlitI_1 h1) (Eq.refl (mA v_above_c3)) (Eq.refl (mA v_fits_c3)) (Eq.refl (mLL v_matcher_costs)) (Eq.refl (mA v_row_c3)) (t_self _ _ _ _ _))
    · refine tl_ite (jc_lt (Eq.refl (mI v_limit)) (Eq.refl (mI rc3))) ?_ ?_
      · refine tl_g (fun h2 => ?_)
        exact (tl_e5 (ja_add (Eq.refl (mI x2)) jlitI_1 h2) (Eq.refl (mA v_above_c3)) (Eq.refl (mA v_fits_c3)) (Eq.refl (mLL v_matcher_costs)) (Eq.refl (mA v_row_c3)) (t_self _ _ _ _ _))
      · refine tl_bd1 (t_pMatcher_allow (Eq.refl N) (Eq.refl (mI x1)) (Eq.refl (mI x2)) (Eq.refl (mI rc3)) (Eq.refl (mLL v_matcher_costs))) (fun v_matcher_costs_c4 => ?_)
        refine tl_g (fun h3 => ?_)
        exact (tl_e5 (ja_add (Eq.refl (mI x2)) jlitI_1 h3) (Eq.refl (mA v_above_c3)) (Eq.refl (mA v_fits_c3)) (Eq.refl (mLL v_matcher_costs_c4)) (Eq.refl (mA v_row_c3)) (t_self _ _ _ _ _))
theorem t_pChest_matchAll_b25 {N N_j : Nat} (t_N : N = N_j) {v_grain : Int32} {v_grain_j : Int} (t_v_grain : mI v_grain = v_grain_j) {v_limit : Int32} {v_limit_j : Int} (t_v_limit : mI v_limit = v_limit_j) {v_lost : Int32} {v_lost_j : Int} (t_v_lost : mI v_lost = v_lost_j) {v_places : (Nat → Int32)} {v_places_j : (Nat → Int)} (t_v_places : mA v_places = v_places_j) {v_sizes : (Nat → Int32)} {v_sizes_j : (Nat → Int)} (t_v_sizes : mA v_sizes = v_sizes_j) {v_worths : (Nat → Int32)} {v_worths_j : (Nat → Int)} (t_v_worths : mA v_worths = v_worths_j) {x1 : Int32} {x1_j : Int} (t_x1 : mI x1 = x1_j) {v_isMatched : Int32} {v_isMatched_j : Int} (t_v_isMatched : mI v_isMatched = v_isMatched_j) {v_goodWorths : (Nat → Int32)} {v_goodWorths_j : (Nat → Int)} (t_v_goodWorths : mA v_goodWorths = v_goodWorths_j) {v_matcher_cameFrom : (Nat → Int32)} {v_matcher_cameFrom_j : (Nat → Int)} (t_v_matcher_cameFrom : mA v_matcher_cameFrom = v_matcher_cameFrom_j) {v_matcher_columnPrices : (Nat → Int64)} {v_matcher_columnPrices_j : (Nat → Int)} (t_v_matcher_columnPrices : mL v_matcher_columnPrices = v_matcher_columnPrices_j) {v_matcher_gaps : (Nat → Int64)} {v_matcher_gaps_j : (Nat → Int)} (t_v_matcher_gaps : mL v_matcher_gaps = v_matcher_gaps_j) {v_matcher_isReached : (Nat → Int32)} {v_matcher_isReached_j : (Nat → Int)} (t_v_matcher_isReached : mA v_matcher_isReached = v_matcher_isReached_j) {v_matcher_mates : (Nat → Int32)} {v_matcher_mates_j : (Nat → Int)} (t_v_matcher_mates : mA v_matcher_mates = v_matcher_mates_j) {v_matcher_rowOf : (Nat → Int32)} {v_matcher_rowOf_j : (Nat → Int)} (t_v_matcher_rowOf : mA v_matcher_rowOf = v_matcher_rowOf_j) {v_matcher_rowPrices : (Nat → Int64)} {v_matcher_rowPrices_j : (Nat → Int)} (t_v_matcher_rowPrices : mL v_matcher_rowPrices = v_matcher_rowPrices_j) {k67 : (Nat → Int32) → (Nat → Int32) → (Nat → Nat → Int64) → (Nat → Int32) → Option R_pChest_matchAll} {k67_j : (Nat → Int) → (Nat → Int) → (Nat → Nat → Int) → (Nat → Int) → Option R_iChest_matchAll} (t_k67 : ∀ (q0_ : (Nat → Int32)) (q1_ : (Nat → Int32)) (q2_ : (Nat → Nat → Int64)) (q3_ : (Nat → Int32)), tl (mP mI (mP mA (mP mA (mP mA (mP mA (mP mL (mP mLL (mP mL (mP mA (mP mA (mP mA (mP mL mA)))))))))))) (k67_j (mA q0_) (mA q1_) (mLL q2_) (mA q3_)) (k67 q0_ q1_ q2_ q3_)) {n n_j : Nat} (t_n : n = n_j) {w0_ : Int32} {w0__j : Int} (t_w0_ : mI w0_ = w0__j) {w1_ : (Nat → Int32)} {w1__j : (Nat → Int)} (t_w1_ : mA w1_ = w1__j) {w2_ : (Nat → Int32)} {w2__j : (Nat → Int)} (t_w2_ : mA w2_ = w2__j) {w3_ : (Nat → Nat → Int64)} {w3__j : (Nat → Nat → Int)} (t_w3_ : mLL w3_ = w3__j) {w4_ : (Nat → Int32)} {w4__j : (Nat → Int)} (t_w4_ : mA w4_ = w4__j) : tl (mP mI (mP mA (mP mA (mP mA (mP mA (mP mL (mP mLL (mP mL (mP mA (mP mA (mP mA (mP mL mA)))))))))))) (iChest_matchAll_b25 N_j v_grain_j v_limit_j v_lost_j v_places_j v_sizes_j v_worths_j x1_j v_isMatched_j v_goodWorths_j v_matcher_cameFrom_j v_matcher_columnPrices_j v_matcher_gaps_j v_matcher_isReached_j v_matcher_mates_j v_matcher_rowOf_j v_matcher_rowPrices_j k67_j n_j w0__j w1__j w2__j w3__j w4__j) (pChest_matchAll_b25 N v_grain v_limit v_lost v_places v_sizes v_worths x1 v_isMatched v_goodWorths v_matcher_cameFrom v_matcher_columnPrices v_matcher_gaps v_matcher_isReached v_matcher_mates v_matcher_rowOf v_matcher_rowPrices k67 n w0_ w1_ w2_ w3_ w4_) := by
  subst t_N
  subst t_v_grain
  subst t_v_limit
  subst t_v_lost
  subst t_v_places
  subst t_v_sizes
  subst t_v_worths
  subst t_x1
  subst t_v_isMatched
  subst t_v_goodWorths
  subst t_v_matcher_cameFrom
  subst t_v_matcher_columnPrices
  subst t_v_matcher_gaps
  subst t_v_matcher_isReached
  subst t_v_matcher_mates
  subst t_v_matcher_rowOf
  subst t_v_matcher_rowPrices
  subst t_n
  subst t_w0_
  subst t_w1_
  subst t_w2_
  subst t_w3_
  subst t_w4_
  exact tl_zlp5 (fun s2 s hs w0_ w1_ w2_ w3_ w4_ => t_pChest_matchAll_b25_F (Eq.refl N) (Eq.refl (mI v_grain)) (Eq.refl (mI v_limit)) (Eq.refl (mI v_lost)) (Eq.refl (mA v_places)) (Eq.refl (mA v_sizes)) (Eq.refl (mA v_worths)) (Eq.refl (mI x1)) (Eq.refl (mI v_isMatched)) (Eq.refl (mA v_goodWorths)) (Eq.refl (mA v_matcher_cameFrom)) (Eq.refl (mL v_matcher_columnPrices)) (Eq.refl (mL v_matcher_gaps)) (Eq.refl (mA v_matcher_isReached)) (Eq.refl (mA v_matcher_mates)) (Eq.refl (mA v_matcher_rowOf)) (Eq.refl (mL v_matcher_rowPrices)) t_k67 hs (Eq.refl (mI w0_)) (Eq.refl (mA w1_)) (Eq.refl (mA w2_)) (Eq.refl (mLL w3_)) (Eq.refl (mA w4_))) n w0_ w1_ w2_ w3_ w4_
theorem t_pChest_matchAll_b67 {N N_j : Nat} (t_N : N = N_j) {v_grain : Int32} {v_grain_j : Int} (t_v_grain : mI v_grain = v_grain_j) {v_limit : Int32} {v_limit_j : Int} (t_v_limit : mI v_limit = v_limit_j) {v_lost : Int32} {v_lost_j : Int} (t_v_lost : mI v_lost = v_lost_j) {v_places : (Nat → Int32)} {v_places_j : (Nat → Int)} (t_v_places : mA v_places = v_places_j) {v_sizes : (Nat → Int32)} {v_sizes_j : (Nat → Int)} (t_v_sizes : mA v_sizes = v_sizes_j) {v_worths : (Nat → Int32)} {v_worths_j : (Nat → Int)} (t_v_worths : mA v_worths = v_worths_j) {self : Int32 → (Nat → Int32) → (Nat → Int32) → (Nat → Nat → Int64) → (Nat → Int32) → Option R_pChest_matchAll} {self_j : Int → (Nat → Int) → (Nat → Int) → (Nat → Nat → Int) → (Nat → Int) → Option R_iChest_matchAll} (t_self : ∀ (q0_ : Int32) (q1_ : (Nat → Int32)) (q2_ : (Nat → Int32)) (q3_ : (Nat → Nat → Int64)) (q4_ : (Nat → Int32)), tl (mP mI (mP mA (mP mA (mP mA (mP mA (mP mL (mP mLL (mP mL (mP mA (mP mA (mP mA (mP mL mA)))))))))))) (self_j (mI q0_) (mA q1_) (mA q2_) (mLL q3_) (mA q4_)) (self q0_ q1_ q2_ q3_ q4_)) {k73 : (Nat → Int32) → (Nat → Int32) → (Nat → Nat → Int64) → (Nat → Int32) → Option R_pChest_matchAll} {k73_j : (Nat → Int) → (Nat → Int) → (Nat → Nat → Int) → (Nat → Int) → Option R_iChest_matchAll} (t_k73 : ∀ (q0_ : (Nat → Int32)) (q1_ : (Nat → Int32)) (q2_ : (Nat → Nat → Int64)) (q3_ : (Nat → Int32)), tl (mP mI (mP mA (mP mA (mP mA (mP mA (mP mL (mP mLL (mP mL (mP mA (mP mA (mP mA (mP mL mA)))))))))))) (k73_j (mA q0_) (mA q1_) (mLL q2_) (mA q3_)) (k73 q0_ q1_ q2_ q3_)) {x1 : Int32} {x1_j : Int} (t_x1 : mI x1 = x1_j) {v_isMatched : Int32} {v_isMatched_j : Int} (t_v_isMatched : mI v_isMatched = v_isMatched_j) {v_above : (Nat → Int32)} {v_above_j : (Nat → Int)} (t_v_above : mA v_above = v_above_j) {v_fits : (Nat → Int32)} {v_fits_j : (Nat → Int)} (t_v_fits : mA v_fits = v_fits_j) {v_goodWorths : (Nat → Int32)} {v_goodWorths_j : (Nat → Int)} (t_v_goodWorths : mA v_goodWorths = v_goodWorths_j) {v_matcher_cameFrom : (Nat → Int32)} {v_matcher_cameFrom_j : (Nat → Int)} (t_v_matcher_cameFrom : mA v_matcher_cameFrom = v_matcher_cameFrom_j) {v_matcher_columnPrices : (Nat → Int64)} {v_matcher_columnPrices_j : (Nat → Int)} (t_v_matcher_columnPrices : mL v_matcher_columnPrices = v_matcher_columnPrices_j) {v_matcher_costs : (Nat → Nat → Int64)} {v_matcher_costs_j : (Nat → Nat → Int)} (t_v_matcher_costs : mLL v_matcher_costs = v_matcher_costs_j) {v_matcher_gaps : (Nat → Int64)} {v_matcher_gaps_j : (Nat → Int)} (t_v_matcher_gaps : mL v_matcher_gaps = v_matcher_gaps_j) {v_matcher_isReached : (Nat → Int32)} {v_matcher_isReached_j : (Nat → Int)} (t_v_matcher_isReached : mA v_matcher_isReached = v_matcher_isReached_j) {v_matcher_mates : (Nat → Int32)} {v_matcher_mates_j : (Nat → Int)} (t_v_matcher_mates : mA v_matcher_mates = v_matcher_mates_j) {v_matcher_rowOf : (Nat → Int32)} {v_matcher_rowOf_j : (Nat → Int)} (t_v_matcher_rowOf : mA v_matcher_rowOf = v_matcher_rowOf_j) {v_matcher_rowPrices : (Nat → Int64)} {v_matcher_rowPrices_j : (Nat → Int)} (t_v_matcher_rowPrices : mL v_matcher_rowPrices = v_matcher_rowPrices_j) {v_row : (Nat → Int32)} {v_row_j : (Nat → Int)} (t_v_row : mA v_row = v_row_j) : tl (mP mI (mP mA (mP mA (mP mA (mP mA (mP mL (mP mLL (mP mL (mP mA (mP mA (mP mA (mP mL mA)))))))))))) (iChest_matchAll_b67 N_j v_grain_j v_limit_j v_lost_j v_places_j v_sizes_j v_worths_j self_j k73_j x1_j v_isMatched_j v_above_j v_fits_j v_goodWorths_j v_matcher_cameFrom_j v_matcher_columnPrices_j v_matcher_costs_j v_matcher_gaps_j v_matcher_isReached_j v_matcher_mates_j v_matcher_rowOf_j v_matcher_rowPrices_j v_row_j) (pChest_matchAll_b67 N v_grain v_limit v_lost v_places v_sizes v_worths self k73 x1 v_isMatched v_above v_fits v_goodWorths v_matcher_cameFrom v_matcher_columnPrices v_matcher_costs v_matcher_gaps v_matcher_isReached v_matcher_mates v_matcher_rowOf v_matcher_rowPrices v_row) := by
  subst t_N
  subst t_v_grain
  subst t_v_limit
  subst t_v_lost
  subst t_v_places
  subst t_v_sizes
  subst t_v_worths
  subst t_x1
  subst t_v_isMatched
  subst t_v_above
  subst t_v_fits
  subst t_v_goodWorths
  subst t_v_matcher_cameFrom
  subst t_v_matcher_columnPrices
  subst t_v_matcher_costs
  subst t_v_matcher_gaps
  subst t_v_matcher_isReached
  subst t_v_matcher_mates
  subst t_v_matcher_rowOf
  subst t_v_matcher_rowPrices
  subst t_v_row
  unfold iChest_matchAll_b67 pChest_matchAll_b67
  refine tl_g (fun h1 => ?_)
  exact (tl_e5 (ja_add (Eq.refl (mI x1)) jlitI_1 h1) (Eq.refl (mA v_above)) (Eq.refl (mA v_fits)) (Eq.refl (mLL v_matcher_costs)) (Eq.refl (mA v_row)) (t_self _ _ _ _ _))
theorem t_pChest_matchAll_b17_F {N N_j : Nat} (t_N : N = N_j) {v_grain : Int32} {v_grain_j : Int} (t_v_grain : mI v_grain = v_grain_j) {v_limit : Int32} {v_limit_j : Int} (t_v_limit : mI v_limit = v_limit_j) {v_lost : Int32} {v_lost_j : Int} (t_v_lost : mI v_lost = v_lost_j) {v_places : (Nat → Int32)} {v_places_j : (Nat → Int)} (t_v_places : mA v_places = v_places_j) {v_sizes : (Nat → Int32)} {v_sizes_j : (Nat → Int)} (t_v_sizes : mA v_sizes = v_sizes_j) {v_worths : (Nat → Int32)} {v_worths_j : (Nat → Int)} (t_v_worths : mA v_worths = v_worths_j) {v_isMatched : Int32} {v_isMatched_j : Int} (t_v_isMatched : mI v_isMatched = v_isMatched_j) {v_goodWorths : (Nat → Int32)} {v_goodWorths_j : (Nat → Int)} (t_v_goodWorths : mA v_goodWorths = v_goodWorths_j) {v_matcher_cameFrom : (Nat → Int32)} {v_matcher_cameFrom_j : (Nat → Int)} (t_v_matcher_cameFrom : mA v_matcher_cameFrom = v_matcher_cameFrom_j) {v_matcher_columnPrices : (Nat → Int64)} {v_matcher_columnPrices_j : (Nat → Int)} (t_v_matcher_columnPrices : mL v_matcher_columnPrices = v_matcher_columnPrices_j) {v_matcher_gaps : (Nat → Int64)} {v_matcher_gaps_j : (Nat → Int)} (t_v_matcher_gaps : mL v_matcher_gaps = v_matcher_gaps_j) {v_matcher_isReached : (Nat → Int32)} {v_matcher_isReached_j : (Nat → Int)} (t_v_matcher_isReached : mA v_matcher_isReached = v_matcher_isReached_j) {v_matcher_mates : (Nat → Int32)} {v_matcher_mates_j : (Nat → Int)} (t_v_matcher_mates : mA v_matcher_mates = v_matcher_mates_j) {v_matcher_rowOf : (Nat → Int32)} {v_matcher_rowOf_j : (Nat → Int)} (t_v_matcher_rowOf : mA v_matcher_rowOf = v_matcher_rowOf_j) {v_matcher_rowPrices : (Nat → Int64)} {v_matcher_rowPrices_j : (Nat → Int)} (t_v_matcher_rowPrices : mL v_matcher_rowPrices = v_matcher_rowPrices_j) {k73 : (Nat → Int32) → (Nat → Int32) → (Nat → Nat → Int64) → (Nat → Int32) → Option R_pChest_matchAll} {k73_j : (Nat → Int) → (Nat → Int) → (Nat → Nat → Int) → (Nat → Int) → Option R_iChest_matchAll} (t_k73 : ∀ (q0_ : (Nat → Int32)) (q1_ : (Nat → Int32)) (q2_ : (Nat → Nat → Int64)) (q3_ : (Nat → Int32)), tl (mP mI (mP mA (mP mA (mP mA (mP mA (mP mL (mP mLL (mP mL (mP mA (mP mA (mP mA (mP mL mA)))))))))))) (k73_j (mA q0_) (mA q1_) (mLL q2_) (mA q3_)) (k73 q0_ q1_ q2_ q3_)) {self : Int32 → (Nat → Int32) → (Nat → Int32) → (Nat → Nat → Int64) → (Nat → Int32) → Option R_pChest_matchAll} {self_j : Int → (Nat → Int) → (Nat → Int) → (Nat → Nat → Int) → (Nat → Int) → Option R_iChest_matchAll} (t_self : ∀ (q0_ : Int32) (q1_ : (Nat → Int32)) (q2_ : (Nat → Int32)) (q3_ : (Nat → Nat → Int64)) (q4_ : (Nat → Int32)), tl (mP mI (mP mA (mP mA (mP mA (mP mA (mP mL (mP mLL (mP mL (mP mA (mP mA (mP mA (mP mL mA)))))))))))) (self_j (mI q0_) (mA q1_) (mA q2_) (mLL q3_) (mA q4_)) (self q0_ q1_ q2_ q3_ q4_)) {x1 : Int32} {x1_j : Int} (t_x1 : mI x1 = x1_j) {v_above : (Nat → Int32)} {v_above_j : (Nat → Int)} (t_v_above : mA v_above = v_above_j) {v_fits : (Nat → Int32)} {v_fits_j : (Nat → Int)} (t_v_fits : mA v_fits = v_fits_j) {v_matcher_costs : (Nat → Nat → Int64)} {v_matcher_costs_j : (Nat → Nat → Int)} (t_v_matcher_costs : mLL v_matcher_costs = v_matcher_costs_j) {v_row : (Nat → Int32)} {v_row_j : (Nat → Int)} (t_v_row : mA v_row = v_row_j) : tl (mP mI (mP mA (mP mA (mP mA (mP mA (mP mL (mP mLL (mP mL (mP mA (mP mA (mP mA (mP mL mA)))))))))))) (iChest_matchAll_b17_F N_j v_grain_j v_limit_j v_lost_j v_places_j v_sizes_j v_worths_j v_isMatched_j v_goodWorths_j v_matcher_cameFrom_j v_matcher_columnPrices_j v_matcher_gaps_j v_matcher_isReached_j v_matcher_mates_j v_matcher_rowOf_j v_matcher_rowPrices_j k73_j self_j x1_j v_above_j v_fits_j v_matcher_costs_j v_row_j) (pChest_matchAll_b17_F N v_grain v_limit v_lost v_places v_sizes v_worths v_isMatched v_goodWorths v_matcher_cameFrom v_matcher_columnPrices v_matcher_gaps v_matcher_isReached v_matcher_mates v_matcher_rowOf v_matcher_rowPrices k73 self x1 v_above v_fits v_matcher_costs v_row) := by
  subst t_N
  subst t_v_grain
  subst t_v_limit
  subst t_v_lost
  subst t_v_places
  subst t_v_sizes
  subst t_v_worths
  subst t_v_isMatched
  subst t_v_goodWorths
  subst t_v_matcher_cameFrom
  subst t_v_matcher_columnPrices
  subst t_v_matcher_gaps
  subst t_v_matcher_isReached
  subst t_v_matcher_mates
  subst t_v_matcher_rowOf
  subst t_v_matcher_rowPrices
  subst t_x1
  subst t_v_above
  subst t_v_fits
  subst t_v_matcher_costs
  subst t_v_row
  unfold iChest_matchAll_b17_F pChest_matchAll_b17_F
  refine tl_ite (jc_le jlitI_10 (Eq.refl (mI x1))) ?_ ?_
  · exact (tl_e4 (Eq.refl (mA v_above)) (Eq.refl (mA v_fits)) (Eq.refl (mLL v_matcher_costs)) (Eq.refl (mA v_row)) (t_k73 _ _ _ _))
  · exact (t_pChest_matchAll_b25 (Eq.refl N) (Eq.refl (mI v_grain)) (Eq.refl (mI v_limit)) (Eq.refl (mI v_lost)) (Eq.refl (mA v_places)) (Eq.refl (mA v_sizes)) (Eq.refl (mA v_worths)) (Eq.refl (mI x1)) (Eq.refl (mI v_isMatched)) (Eq.refl (mA v_goodWorths)) (Eq.refl (mA v_matcher_cameFrom)) (Eq.refl (mL v_matcher_columnPrices)) (Eq.refl (mL v_matcher_gaps)) (Eq.refl (mA v_matcher_isReached)) (Eq.refl (mA v_matcher_mates)) (Eq.refl (mA v_matcher_rowOf)) (Eq.refl (mL v_matcher_rowPrices)) (fun v_above_k1 v_fits_k2 v_matcher_costs_k3 e22_ => by exact (t_pChest_matchAll_b67 (Eq.refl N) (Eq.refl (mI v_grain)) (Eq.refl (mI v_limit)) (Eq.refl (mI v_lost)) (Eq.refl (mA v_places)) (Eq.refl (mA v_sizes)) (Eq.refl (mA v_worths)) t_self t_k73 (Eq.refl (mI x1)) (Eq.refl (mI v_isMatched)) (Eq.refl (mA v_above_k1)) (Eq.refl (mA v_fits_k2)) (Eq.refl (mA v_goodWorths)) (Eq.refl (mA v_matcher_cameFrom)) (Eq.refl (mL v_matcher_columnPrices)) (Eq.refl (mLL v_matcher_costs_k3)) (Eq.refl (mL v_matcher_gaps)) (Eq.refl (mA v_matcher_isReached)) (Eq.refl (mA v_matcher_mates)) (Eq.refl (mA v_matcher_rowOf)) (Eq.refl (mL v_matcher_rowPrices)) (Eq.refl (mA e22_)))) (Eq.refl N) jlitI_0 (Eq.refl (mA v_above)) (Eq.refl (mA v_fits)) (Eq.refl (mLL v_matcher_costs)) (Eq.refl (mA v_row)))
theorem t_pChest_matchAll_b17 {N N_j : Nat} (t_N : N = N_j) {v_grain : Int32} {v_grain_j : Int} (t_v_grain : mI v_grain = v_grain_j) {v_limit : Int32} {v_limit_j : Int} (t_v_limit : mI v_limit = v_limit_j) {v_lost : Int32} {v_lost_j : Int} (t_v_lost : mI v_lost = v_lost_j) {v_places : (Nat → Int32)} {v_places_j : (Nat → Int)} (t_v_places : mA v_places = v_places_j) {v_sizes : (Nat → Int32)} {v_sizes_j : (Nat → Int)} (t_v_sizes : mA v_sizes = v_sizes_j) {v_worths : (Nat → Int32)} {v_worths_j : (Nat → Int)} (t_v_worths : mA v_worths = v_worths_j) {v_isMatched : Int32} {v_isMatched_j : Int} (t_v_isMatched : mI v_isMatched = v_isMatched_j) {v_goodWorths : (Nat → Int32)} {v_goodWorths_j : (Nat → Int)} (t_v_goodWorths : mA v_goodWorths = v_goodWorths_j) {v_matcher_cameFrom : (Nat → Int32)} {v_matcher_cameFrom_j : (Nat → Int)} (t_v_matcher_cameFrom : mA v_matcher_cameFrom = v_matcher_cameFrom_j) {v_matcher_columnPrices : (Nat → Int64)} {v_matcher_columnPrices_j : (Nat → Int)} (t_v_matcher_columnPrices : mL v_matcher_columnPrices = v_matcher_columnPrices_j) {v_matcher_gaps : (Nat → Int64)} {v_matcher_gaps_j : (Nat → Int)} (t_v_matcher_gaps : mL v_matcher_gaps = v_matcher_gaps_j) {v_matcher_isReached : (Nat → Int32)} {v_matcher_isReached_j : (Nat → Int)} (t_v_matcher_isReached : mA v_matcher_isReached = v_matcher_isReached_j) {v_matcher_mates : (Nat → Int32)} {v_matcher_mates_j : (Nat → Int)} (t_v_matcher_mates : mA v_matcher_mates = v_matcher_mates_j) {v_matcher_rowOf : (Nat → Int32)} {v_matcher_rowOf_j : (Nat → Int)} (t_v_matcher_rowOf : mA v_matcher_rowOf = v_matcher_rowOf_j) {v_matcher_rowPrices : (Nat → Int64)} {v_matcher_rowPrices_j : (Nat → Int)} (t_v_matcher_rowPrices : mL v_matcher_rowPrices = v_matcher_rowPrices_j) {k73 : (Nat → Int32) → (Nat → Int32) → (Nat → Nat → Int64) → (Nat → Int32) → Option R_pChest_matchAll} {k73_j : (Nat → Int) → (Nat → Int) → (Nat → Nat → Int) → (Nat → Int) → Option R_iChest_matchAll} (t_k73 : ∀ (q0_ : (Nat → Int32)) (q1_ : (Nat → Int32)) (q2_ : (Nat → Nat → Int64)) (q3_ : (Nat → Int32)), tl (mP mI (mP mA (mP mA (mP mA (mP mA (mP mL (mP mLL (mP mL (mP mA (mP mA (mP mA (mP mL mA)))))))))))) (k73_j (mA q0_) (mA q1_) (mLL q2_) (mA q3_)) (k73 q0_ q1_ q2_ q3_)) {n n_j : Nat} (t_n : n = n_j) {w0_ : Int32} {w0__j : Int} (t_w0_ : mI w0_ = w0__j) {w1_ : (Nat → Int32)} {w1__j : (Nat → Int)} (t_w1_ : mA w1_ = w1__j) {w2_ : (Nat → Int32)} {w2__j : (Nat → Int)} (t_w2_ : mA w2_ = w2__j) {w3_ : (Nat → Nat → Int64)} {w3__j : (Nat → Nat → Int)} (t_w3_ : mLL w3_ = w3__j) {w4_ : (Nat → Int32)} {w4__j : (Nat → Int)} (t_w4_ : mA w4_ = w4__j) : tl (mP mI (mP mA (mP mA (mP mA (mP mA (mP mL (mP mLL (mP mL (mP mA (mP mA (mP mA (mP mL mA)))))))))))) (iChest_matchAll_b17 N_j v_grain_j v_limit_j v_lost_j v_places_j v_sizes_j v_worths_j v_isMatched_j v_goodWorths_j v_matcher_cameFrom_j v_matcher_columnPrices_j v_matcher_gaps_j v_matcher_isReached_j v_matcher_mates_j v_matcher_rowOf_j v_matcher_rowPrices_j k73_j n_j w0__j w1__j w2__j w3__j w4__j) (pChest_matchAll_b17 N v_grain v_limit v_lost v_places v_sizes v_worths v_isMatched v_goodWorths v_matcher_cameFrom v_matcher_columnPrices v_matcher_gaps v_matcher_isReached v_matcher_mates v_matcher_rowOf v_matcher_rowPrices k73 n w0_ w1_ w2_ w3_ w4_) := by
  subst t_N
  subst t_v_grain
  subst t_v_limit
  subst t_v_lost
  subst t_v_places
  subst t_v_sizes
  subst t_v_worths
  subst t_v_isMatched
  subst t_v_goodWorths
  subst t_v_matcher_cameFrom
  subst t_v_matcher_columnPrices
  subst t_v_matcher_gaps
  subst t_v_matcher_isReached
  subst t_v_matcher_mates
  subst t_v_matcher_rowOf
  subst t_v_matcher_rowPrices
  subst t_n
  subst t_w0_
  subst t_w1_
  subst t_w2_
  subst t_w3_
  subst t_w4_
  exact tl_zlp5 (fun s2 s hs w0_ w1_ w2_ w3_ w4_ => t_pChest_matchAll_b17_F (Eq.refl N) (Eq.refl (mI v_grain)) (Eq.refl (mI v_limit)) (Eq.refl (mI v_lost)) (Eq.refl (mA v_places)) (Eq.refl (mA v_sizes)) (Eq.refl (mA v_worths)) (Eq.refl (mI v_isMatched)) (Eq.refl (mA v_goodWorths)) (Eq.refl (mA v_matcher_cameFrom)) (Eq.refl (mL v_matcher_columnPrices)) (Eq.refl (mL v_matcher_gaps)) (Eq.refl (mA v_matcher_isReached)) (Eq.refl (mA v_matcher_mates)) (Eq.refl (mA v_matcher_rowOf)) (Eq.refl (mL v_matcher_rowPrices)) t_k73 hs (Eq.refl (mI w0_)) (Eq.refl (mA w1_)) (Eq.refl (mA w2_)) (Eq.refl (mLL w3_)) (Eq.refl (mA w4_))) n w0_ w1_ w2_ w3_ w4_
theorem t_pChest_matchAll_b114 {N N_j : Nat} (t_N : N = N_j) {v_grain : Int32} {v_grain_j : Int} (t_v_grain : mI v_grain = v_grain_j) {v_limit : Int32} {v_limit_j : Int} (t_v_limit : mI v_limit = v_limit_j) {v_lost : Int32} {v_lost_j : Int} (t_v_lost : mI v_lost = v_lost_j) {v_places : (Nat → Int32)} {v_places_j : (Nat → Int)} (t_v_places : mA v_places = v_places_j) {v_sizes : (Nat → Int32)} {v_sizes_j : (Nat → Int)} (t_v_sizes : mA v_sizes = v_sizes_j) {v_worths : (Nat → Int32)} {v_worths_j : (Nat → Int)} (t_v_worths : mA v_worths = v_worths_j) {self : Int32 → (Nat → Int32) → Option R_pChest_matchAll} {self_j : Int → (Nat → Int) → Option R_iChest_matchAll} (t_self : ∀ (q0_ : Int32) (q1_ : (Nat → Int32)), tl (mP mI (mP mA (mP mA (mP mA (mP mA (mP mL (mP mLL (mP mL (mP mA (mP mA (mP mA (mP mL mA)))))))))))) (self_j (mI q0_) (mA q1_)) (self q0_ q1_)) {x1 : Int32} {x1_j : Int} (t_x1 : mI x1 = x1_j) {s1 : Int32} {s1_j : Int} (t_s1 : mI s1 = s1_j) {s2 : Int32} {s2_j : Int} (t_s2 : mI s2 = s2_j) {v_isMatched : Int32} {v_isMatched_j : Int} (t_v_isMatched : mI v_isMatched = v_isMatched_j) {v_above : (Nat → Int32)} {v_above_j : (Nat → Int)} (t_v_above : mA v_above = v_above_j) {v_fits : (Nat → Int32)} {v_fits_j : (Nat → Int)} (t_v_fits : mA v_fits = v_fits_j) {v_goodWorths : (Nat → Int32)} {v_goodWorths_j : (Nat → Int)} (t_v_goodWorths : mA v_goodWorths = v_goodWorths_j) {v_matcher_cameFrom : (Nat → Int32)} {v_matcher_cameFrom_j : (Nat → Int)} (t_v_matcher_cameFrom : mA v_matcher_cameFrom = v_matcher_cameFrom_j) {v_matcher_columnPrices : (Nat → Int64)} {v_matcher_columnPrices_j : (Nat → Int)} (t_v_matcher_columnPrices : mL v_matcher_columnPrices = v_matcher_columnPrices_j) {v_matcher_costs : (Nat → Nat → Int64)} {v_matcher_costs_j : (Nat → Nat → Int)} (t_v_matcher_costs : mLL v_matcher_costs = v_matcher_costs_j) {v_matcher_gaps : (Nat → Int64)} {v_matcher_gaps_j : (Nat → Int)} (t_v_matcher_gaps : mL v_matcher_gaps = v_matcher_gaps_j) {v_matcher_isReached : (Nat → Int32)} {v_matcher_isReached_j : (Nat → Int)} (t_v_matcher_isReached : mA v_matcher_isReached = v_matcher_isReached_j) {v_matcher_mates : (Nat → Int32)} {v_matcher_mates_j : (Nat → Int)} (t_v_matcher_mates : mA v_matcher_mates = v_matcher_mates_j) {v_matcher_rowOf : (Nat → Int32)} {v_matcher_rowOf_j : (Nat → Int)} (t_v_matcher_rowOf : mA v_matcher_rowOf = v_matcher_rowOf_j) {v_matcher_rowPrices : (Nat → Int64)} {v_matcher_rowPrices_j : (Nat → Int)} (t_v_matcher_rowPrices : mL v_matcher_rowPrices = v_matcher_rowPrices_j) {v_row : (Nat → Int32)} {v_row_j : (Nat → Int)} (t_v_row : mA v_row = v_row_j) : tl (mP mI (mP mA (mP mA (mP mA (mP mA (mP mL (mP mLL (mP mL (mP mA (mP mA (mP mA (mP mL mA)))))))))))) (iChest_matchAll_b114 N_j v_grain_j v_limit_j v_lost_j v_places_j v_sizes_j v_worths_j self_j x1_j s1_j s2_j v_isMatched_j v_above_j v_fits_j v_goodWorths_j v_matcher_cameFrom_j v_matcher_columnPrices_j v_matcher_costs_j v_matcher_gaps_j v_matcher_isReached_j v_matcher_mates_j v_matcher_rowOf_j v_matcher_rowPrices_j v_row_j) (pChest_matchAll_b114 N v_grain v_limit v_lost v_places v_sizes v_worths self x1 s1 s2 v_isMatched v_above v_fits v_goodWorths v_matcher_cameFrom v_matcher_columnPrices v_matcher_costs v_matcher_gaps v_matcher_isReached v_matcher_mates v_matcher_rowOf v_matcher_rowPrices v_row) := by
  subst t_N
  subst t_v_grain
  subst t_v_limit
  subst t_v_lost
  subst t_v_places
  subst t_v_sizes
  subst t_v_worths
  subst t_x1
  subst t_s1
  subst t_s2
  subst t_v_isMatched
  subst t_v_above
  subst t_v_fits
  subst t_v_goodWorths
  subst t_v_matcher_cameFrom
  subst t_v_matcher_columnPrices
  subst t_v_matcher_costs
  subst t_v_matcher_gaps
  subst t_v_matcher_isReached
  subst t_v_matcher_mates
  subst t_v_matcher_rowOf
  subst t_v_matcher_rowPrices
  subst t_v_row
  unfold iChest_matchAll_b114 pChest_matchAll_b114
  refine tl_gd (jg_ib (Eq.refl (mI s1))) (fun _ => ?_)
  refine tl_g (fun h1 => ?_)
  exact (tl_e2 (ja_add (Eq.refl (mI x1)) jlitI_1 h1) (jupA (Eq.refl (mA v_goodWorths)) (jx (Eq.refl (mI s1))) (Eq.refl (mI s2))) (t_self _ _))
theorem t_pChest_matchAll_b82_F {N N_j : Nat} (t_N : N = N_j) {v_grain : Int32} {v_grain_j : Int} (t_v_grain : mI v_grain = v_grain_j) {v_limit : Int32} {v_limit_j : Int} (t_v_limit : mI v_limit = v_limit_j) {v_lost : Int32} {v_lost_j : Int} (t_v_lost : mI v_lost = v_lost_j) {v_places : (Nat → Int32)} {v_places_j : (Nat → Int)} (t_v_places : mA v_places = v_places_j) {v_sizes : (Nat → Int32)} {v_sizes_j : (Nat → Int)} (t_v_sizes : mA v_sizes = v_sizes_j) {v_worths : (Nat → Int32)} {v_worths_j : (Nat → Int)} (t_v_worths : mA v_worths = v_worths_j) {v_isMatched : Int32} {v_isMatched_j : Int} (t_v_isMatched : mI v_isMatched = v_isMatched_j) {v_above : (Nat → Int32)} {v_above_j : (Nat → Int)} (t_v_above : mA v_above = v_above_j) {v_fits : (Nat → Int32)} {v_fits_j : (Nat → Int)} (t_v_fits : mA v_fits = v_fits_j) {v_matcher_cameFrom : (Nat → Int32)} {v_matcher_cameFrom_j : (Nat → Int)} (t_v_matcher_cameFrom : mA v_matcher_cameFrom = v_matcher_cameFrom_j) {v_matcher_columnPrices : (Nat → Int64)} {v_matcher_columnPrices_j : (Nat → Int)} (t_v_matcher_columnPrices : mL v_matcher_columnPrices = v_matcher_columnPrices_j) {v_matcher_costs : (Nat → Nat → Int64)} {v_matcher_costs_j : (Nat → Nat → Int)} (t_v_matcher_costs : mLL v_matcher_costs = v_matcher_costs_j) {v_matcher_gaps : (Nat → Int64)} {v_matcher_gaps_j : (Nat → Int)} (t_v_matcher_gaps : mL v_matcher_gaps = v_matcher_gaps_j) {v_matcher_isReached : (Nat → Int32)} {v_matcher_isReached_j : (Nat → Int)} (t_v_matcher_isReached : mA v_matcher_isReached = v_matcher_isReached_j) {v_matcher_mates : (Nat → Int32)} {v_matcher_mates_j : (Nat → Int)} (t_v_matcher_mates : mA v_matcher_mates = v_matcher_mates_j) {v_matcher_rowOf : (Nat → Int32)} {v_matcher_rowOf_j : (Nat → Int)} (t_v_matcher_rowOf : mA v_matcher_rowOf = v_matcher_rowOf_j) {v_matcher_rowPrices : (Nat → Int64)} {v_matcher_rowPrices_j : (Nat → Int)} (t_v_matcher_rowPrices : mL v_matcher_rowPrices = v_matcher_rowPrices_j) {v_row : (Nat → Int32)} {v_row_j : (Nat → Int)} (t_v_row : mA v_row = v_row_j) {self : Int32 → (Nat → Int32) → Option R_pChest_matchAll} {self_j : Int → (Nat → Int) → Option R_iChest_matchAll} (t_self : ∀ (q0_ : Int32) (q1_ : (Nat → Int32)), tl (mP mI (mP mA (mP mA (mP mA (mP mA (mP mL (mP mLL (mP mL (mP mA (mP mA (mP mA (mP mL mA)))))))))))) (self_j (mI q0_) (mA q1_)) (self q0_ q1_)) {x1 : Int32} {x1_j : Int} (t_x1 : mI x1 = x1_j) {v_goodWorths : (Nat → Int32)} {v_goodWorths_j : (Nat → Int)} (t_v_goodWorths : mA v_goodWorths = v_goodWorths_j) : tl (mP mI (mP mA (mP mA (mP mA (mP mA (mP mL (mP mLL (mP mL (mP mA (mP mA (mP mA (mP mL mA)))))))))))) (iChest_matchAll_b82_F N_j v_grain_j v_limit_j v_lost_j v_places_j v_sizes_j v_worths_j v_isMatched_j v_above_j v_fits_j v_matcher_cameFrom_j v_matcher_columnPrices_j v_matcher_costs_j v_matcher_gaps_j v_matcher_isReached_j v_matcher_mates_j v_matcher_rowOf_j v_matcher_rowPrices_j v_row_j self_j x1_j v_goodWorths_j) (pChest_matchAll_b82_F N v_grain v_limit v_lost v_places v_sizes v_worths v_isMatched v_above v_fits v_matcher_cameFrom v_matcher_columnPrices v_matcher_costs v_matcher_gaps v_matcher_isReached v_matcher_mates v_matcher_rowOf v_matcher_rowPrices v_row self x1 v_goodWorths) := by
  subst t_N
  subst t_v_grain
  subst t_v_limit
  subst t_v_lost
  subst t_v_places
  subst t_v_sizes
  subst t_v_worths
  subst t_v_isMatched
  subst t_v_above
  subst t_v_fits
  subst t_v_matcher_cameFrom
  subst t_v_matcher_columnPrices
  subst t_v_matcher_costs
  subst t_v_matcher_gaps
  subst t_v_matcher_isReached
  subst t_v_matcher_mates
  subst t_v_matcher_rowOf
  subst t_v_matcher_rowPrices
  subst t_v_row
  subst t_x1
  subst t_v_goodWorths
  unfold iChest_matchAll_b82_F pChest_matchAll_b82_F
  refine tl_ite (jc_le jlitI_10 (Eq.refl (mI x1))) ?_ ?_
  · exact (tl_some (jp2 jlitI_1 (jp2 (Eq.refl (mA v_above)) (jp2 (Eq.refl (mA v_fits)) (jp2 (Eq.refl (mA v_goodWorths)) (jp2 (Eq.refl (mA v_matcher_cameFrom)) (jp2 (Eq.refl (mL v_matcher_columnPrices)) (jp2 (Eq.refl (mLL v_matcher_costs)) (jp2 (Eq.refl (mL v_matcher_gaps)) (jp2 (Eq.refl (mA v_matcher_isReached)) (jp2 (Eq.refl (mA v_matcher_mates)) (jp2 (Eq.refl (mA v_matcher_rowOf)) (jp2 (Eq.refl (mL v_matcher_rowPrices)) (Eq.refl (mA v_row)))))))))))))))
  · refine tl_bd1 (t_pMatcher_foilOf (Eq.refl (mI x1)) (Eq.refl (mA v_matcher_mates))) (fun rc5 => ?_)
    refine tl_ite (jc_eq (Eq.refl (mI rc5)) jlitI_m1) ?_ ?_
    · exact (t_pChest_matchAll_b114 (Eq.refl N) (Eq.refl (mI v_grain)) (Eq.refl (mI v_limit)) (Eq.refl (mI v_lost)) (Eq.refl (mA v_places)) (Eq.refl (mA v_sizes)) (Eq.refl (mA v_worths)) t_self (Eq.refl (mI x1)) (Eq.refl (mI x1)) jlitI_0 (Eq.refl (mI v_isMatched)) (Eq.refl (mA v_above)) (Eq.refl (mA v_fits)) (Eq.refl (mA v_goodWorths)) (Eq.refl (mA v_matcher_cameFrom)) (Eq.refl (mL v_matcher_columnPrices)) (Eq.refl (mLL v_matcher_costs)) (Eq.refl (mL v_matcher_gaps)) (Eq.refl (mA v_matcher_isReached)) (Eq.refl (mA v_matcher_mates)) (Eq.refl (mA v_matcher_rowOf)) (Eq.refl (mL v_matcher_rowPrices)) (Eq.refl (mA v_row)))
    · refine tl_bd1 (t_pChest_worthOf (Eq.refl N) (Eq.refl (mI x1)) (Eq.refl (mA v_sizes)) (Eq.refl (mA v_worths))) (fun rc6 => ?_)
      exact (t_pChest_matchAll_b114 (Eq.refl N) (Eq.refl (mI v_grain)) (Eq.refl (mI v_limit)) (Eq.refl (mI v_lost)) (Eq.refl (mA v_places)) (Eq.refl (mA v_sizes)) (Eq.refl (mA v_worths)) t_self (Eq.refl (mI x1)) (Eq.refl (mI x1)) (Eq.refl (mI rc6)) (Eq.refl (mI v_isMatched)) (Eq.refl (mA v_above)) (Eq.refl (mA v_fits)) (Eq.refl (mA v_goodWorths)) (Eq.refl (mA v_matcher_cameFrom)) (Eq.refl (mL v_matcher_columnPrices)) (Eq.refl (mLL v_matcher_costs)) (Eq.refl (mL v_matcher_gaps)) (Eq.refl (mA v_matcher_isReached)) (Eq.refl (mA v_matcher_mates)) (Eq.refl (mA v_matcher_rowOf)) (Eq.refl (mL v_matcher_rowPrices)) (Eq.refl (mA v_row)))
theorem t_pChest_matchAll_b82 {N N_j : Nat} (t_N : N = N_j) {v_grain : Int32} {v_grain_j : Int} (t_v_grain : mI v_grain = v_grain_j) {v_limit : Int32} {v_limit_j : Int} (t_v_limit : mI v_limit = v_limit_j) {v_lost : Int32} {v_lost_j : Int} (t_v_lost : mI v_lost = v_lost_j) {v_places : (Nat → Int32)} {v_places_j : (Nat → Int)} (t_v_places : mA v_places = v_places_j) {v_sizes : (Nat → Int32)} {v_sizes_j : (Nat → Int)} (t_v_sizes : mA v_sizes = v_sizes_j) {v_worths : (Nat → Int32)} {v_worths_j : (Nat → Int)} (t_v_worths : mA v_worths = v_worths_j) {v_isMatched : Int32} {v_isMatched_j : Int} (t_v_isMatched : mI v_isMatched = v_isMatched_j) {v_above : (Nat → Int32)} {v_above_j : (Nat → Int)} (t_v_above : mA v_above = v_above_j) {v_fits : (Nat → Int32)} {v_fits_j : (Nat → Int)} (t_v_fits : mA v_fits = v_fits_j) {v_matcher_cameFrom : (Nat → Int32)} {v_matcher_cameFrom_j : (Nat → Int)} (t_v_matcher_cameFrom : mA v_matcher_cameFrom = v_matcher_cameFrom_j) {v_matcher_columnPrices : (Nat → Int64)} {v_matcher_columnPrices_j : (Nat → Int)} (t_v_matcher_columnPrices : mL v_matcher_columnPrices = v_matcher_columnPrices_j) {v_matcher_costs : (Nat → Nat → Int64)} {v_matcher_costs_j : (Nat → Nat → Int)} (t_v_matcher_costs : mLL v_matcher_costs = v_matcher_costs_j) {v_matcher_gaps : (Nat → Int64)} {v_matcher_gaps_j : (Nat → Int)} (t_v_matcher_gaps : mL v_matcher_gaps = v_matcher_gaps_j) {v_matcher_isReached : (Nat → Int32)} {v_matcher_isReached_j : (Nat → Int)} (t_v_matcher_isReached : mA v_matcher_isReached = v_matcher_isReached_j) {v_matcher_mates : (Nat → Int32)} {v_matcher_mates_j : (Nat → Int)} (t_v_matcher_mates : mA v_matcher_mates = v_matcher_mates_j) {v_matcher_rowOf : (Nat → Int32)} {v_matcher_rowOf_j : (Nat → Int)} (t_v_matcher_rowOf : mA v_matcher_rowOf = v_matcher_rowOf_j) {v_matcher_rowPrices : (Nat → Int64)} {v_matcher_rowPrices_j : (Nat → Int)} (t_v_matcher_rowPrices : mL v_matcher_rowPrices = v_matcher_rowPrices_j) {v_row : (Nat → Int32)} {v_row_j : (Nat → Int)} (t_v_row : mA v_row = v_row_j) {n n_j : Nat} (t_n : n = n_j) {w0_ : Int32} {w0__j : Int} (t_w0_ : mI w0_ = w0__j) {w1_ : (Nat → Int32)} {w1__j : (Nat → Int)} (t_w1_ : mA w1_ = w1__j) : tl (mP mI (mP mA (mP mA (mP mA (mP mA (mP mL (mP mLL (mP mL (mP mA (mP mA (mP mA (mP mL mA)))))))))))) (iChest_matchAll_b82 N_j v_grain_j v_limit_j v_lost_j v_places_j v_sizes_j v_worths_j v_isMatched_j v_above_j v_fits_j v_matcher_cameFrom_j v_matcher_columnPrices_j v_matcher_costs_j v_matcher_gaps_j v_matcher_isReached_j v_matcher_mates_j v_matcher_rowOf_j v_matcher_rowPrices_j v_row_j n_j w0__j w1__j) (pChest_matchAll_b82 N v_grain v_limit v_lost v_places v_sizes v_worths v_isMatched v_above v_fits v_matcher_cameFrom v_matcher_columnPrices v_matcher_costs v_matcher_gaps v_matcher_isReached v_matcher_mates v_matcher_rowOf v_matcher_rowPrices v_row n w0_ w1_) := by
  subst t_N
  subst t_v_grain
  subst t_v_limit
  subst t_v_lost
  subst t_v_places
  subst t_v_sizes
  subst t_v_worths
  subst t_v_isMatched
  subst t_v_above
  subst t_v_fits
  subst t_v_matcher_cameFrom
  subst t_v_matcher_columnPrices
  subst t_v_matcher_costs
  subst t_v_matcher_gaps
  subst t_v_matcher_isReached
  subst t_v_matcher_mates
  subst t_v_matcher_rowOf
  subst t_v_matcher_rowPrices
  subst t_v_row
  subst t_n
  subst t_w0_
  subst t_w1_
  exact tl_zlp2 (fun s2 s hs w0_ w1_ => t_pChest_matchAll_b82_F (Eq.refl N) (Eq.refl (mI v_grain)) (Eq.refl (mI v_limit)) (Eq.refl (mI v_lost)) (Eq.refl (mA v_places)) (Eq.refl (mA v_sizes)) (Eq.refl (mA v_worths)) (Eq.refl (mI v_isMatched)) (Eq.refl (mA v_above)) (Eq.refl (mA v_fits)) (Eq.refl (mA v_matcher_cameFrom)) (Eq.refl (mL v_matcher_columnPrices)) (Eq.refl (mLL v_matcher_costs)) (Eq.refl (mL v_matcher_gaps)) (Eq.refl (mA v_matcher_isReached)) (Eq.refl (mA v_matcher_mates)) (Eq.refl (mA v_matcher_rowOf)) (Eq.refl (mL v_matcher_rowPrices)) (Eq.refl (mA v_row)) hs (Eq.refl (mI w0_)) (Eq.refl (mA w1_))) n w0_ w1_
theorem t_pChest_matchAll_b73 {N N_j : Nat} (t_N : N = N_j) {v_grain : Int32} {v_grain_j : Int} (t_v_grain : mI v_grain = v_grain_j) {v_limit : Int32} {v_limit_j : Int} (t_v_limit : mI v_limit = v_limit_j) {v_lost : Int32} {v_lost_j : Int} (t_v_lost : mI v_lost = v_lost_j) {v_places : (Nat → Int32)} {v_places_j : (Nat → Int)} (t_v_places : mA v_places = v_places_j) {v_sizes : (Nat → Int32)} {v_sizes_j : (Nat → Int)} (t_v_sizes : mA v_sizes = v_sizes_j) {v_worths : (Nat → Int32)} {v_worths_j : (Nat → Int)} (t_v_worths : mA v_worths = v_worths_j) {v_isMatched : Int32} {v_isMatched_j : Int} (t_v_isMatched : mI v_isMatched = v_isMatched_j) {v_above : (Nat → Int32)} {v_above_j : (Nat → Int)} (t_v_above : mA v_above = v_above_j) {v_fits : (Nat → Int32)} {v_fits_j : (Nat → Int)} (t_v_fits : mA v_fits = v_fits_j) {v_goodWorths : (Nat → Int32)} {v_goodWorths_j : (Nat → Int)} (t_v_goodWorths : mA v_goodWorths = v_goodWorths_j) {v_matcher_cameFrom : (Nat → Int32)} {v_matcher_cameFrom_j : (Nat → Int)} (t_v_matcher_cameFrom : mA v_matcher_cameFrom = v_matcher_cameFrom_j) {v_matcher_columnPrices : (Nat → Int64)} {v_matcher_columnPrices_j : (Nat → Int)} (t_v_matcher_columnPrices : mL v_matcher_columnPrices = v_matcher_columnPrices_j) {v_matcher_costs : (Nat → Nat → Int64)} {v_matcher_costs_j : (Nat → Nat → Int)} (t_v_matcher_costs : mLL v_matcher_costs = v_matcher_costs_j) {v_matcher_gaps : (Nat → Int64)} {v_matcher_gaps_j : (Nat → Int)} (t_v_matcher_gaps : mL v_matcher_gaps = v_matcher_gaps_j) {v_matcher_isReached : (Nat → Int32)} {v_matcher_isReached_j : (Nat → Int)} (t_v_matcher_isReached : mA v_matcher_isReached = v_matcher_isReached_j) {v_matcher_mates : (Nat → Int32)} {v_matcher_mates_j : (Nat → Int)} (t_v_matcher_mates : mA v_matcher_mates = v_matcher_mates_j) {v_matcher_rowOf : (Nat → Int32)} {v_matcher_rowOf_j : (Nat → Int)} (t_v_matcher_rowOf : mA v_matcher_rowOf = v_matcher_rowOf_j) {v_matcher_rowPrices : (Nat → Int64)} {v_matcher_rowPrices_j : (Nat → Int)} (t_v_matcher_rowPrices : mL v_matcher_rowPrices = v_matcher_rowPrices_j) {v_row : (Nat → Int32)} {v_row_j : (Nat → Int)} (t_v_row : mA v_row = v_row_j) : tl (mP mI (mP mA (mP mA (mP mA (mP mA (mP mL (mP mLL (mP mL (mP mA (mP mA (mP mA (mP mL mA)))))))))))) (iChest_matchAll_b73 N_j v_grain_j v_limit_j v_lost_j v_places_j v_sizes_j v_worths_j v_isMatched_j v_above_j v_fits_j v_goodWorths_j v_matcher_cameFrom_j v_matcher_columnPrices_j v_matcher_costs_j v_matcher_gaps_j v_matcher_isReached_j v_matcher_mates_j v_matcher_rowOf_j v_matcher_rowPrices_j v_row_j) (pChest_matchAll_b73 N v_grain v_limit v_lost v_places v_sizes v_worths v_isMatched v_above v_fits v_goodWorths v_matcher_cameFrom v_matcher_columnPrices v_matcher_costs v_matcher_gaps v_matcher_isReached v_matcher_mates v_matcher_rowOf v_matcher_rowPrices v_row) := by
  subst t_N
  subst t_v_grain
  subst t_v_limit
  subst t_v_lost
  subst t_v_places
  subst t_v_sizes
  subst t_v_worths
  subst t_v_isMatched
  subst t_v_above
  subst t_v_fits
  subst t_v_goodWorths
  subst t_v_matcher_cameFrom
  subst t_v_matcher_columnPrices
  subst t_v_matcher_costs
  subst t_v_matcher_gaps
  subst t_v_matcher_isReached
  subst t_v_matcher_mates
  subst t_v_matcher_rowOf
  subst t_v_matcher_rowPrices
  subst t_v_row
  unfold iChest_matchAll_b73 pChest_matchAll_b73
  refine tl_bd7 (t_pMatcher_solve (Eq.refl N) (Eq.refl (mA v_matcher_cameFrom)) (Eq.refl (mL v_matcher_columnPrices)) (Eq.refl (mLL v_matcher_costs)) (Eq.refl (mL v_matcher_gaps)) (Eq.refl (mA v_matcher_isReached)) (Eq.refl (mA v_matcher_mates)) (Eq.refl (mA v_matcher_rowOf)) (Eq.refl (mL v_matcher_rowPrices))) (fun v_matcher_cameFrom_c2 v_matcher_columnPrices_c2 v_matcher_gaps_c2 v_matcher_isReached_c2 v_matcher_mates_c2 v_matcher_rowOf_c2 v_matcher_rowPrices_c2 => ?_)
  exact (t_pChest_matchAll_b82 (Eq.refl N) (Eq.refl (mI v_grain)) (Eq.refl (mI v_limit)) (Eq.refl (mI v_lost)) (Eq.refl (mA v_places)) (Eq.refl (mA v_sizes)) (Eq.refl (mA v_worths)) (Eq.refl (mI v_isMatched)) (Eq.refl (mA v_above)) (Eq.refl (mA v_fits)) (Eq.refl (mA v_matcher_cameFrom_c2)) (Eq.refl (mL v_matcher_columnPrices_c2)) (Eq.refl (mLL v_matcher_costs)) (Eq.refl (mL v_matcher_gaps_c2)) (Eq.refl (mA v_matcher_isReached_c2)) (Eq.refl (mA v_matcher_mates_c2)) (Eq.refl (mA v_matcher_rowOf_c2)) (Eq.refl (mL v_matcher_rowPrices_c2)) (Eq.refl (mA v_row)) (Eq.refl N) jlitI_0 (Eq.refl (mA v_goodWorths)))
theorem t_pChest_matchAll {N N_j : Nat} (t_N : N = N_j) {v_grain : Int32} {v_grain_j : Int} (t_v_grain : mI v_grain = v_grain_j) {v_isMatched : Int32} {v_isMatched_j : Int} (t_v_isMatched : mI v_isMatched = v_isMatched_j) {v_limit : Int32} {v_limit_j : Int} (t_v_limit : mI v_limit = v_limit_j) {v_lost : Int32} {v_lost_j : Int} (t_v_lost : mI v_lost = v_lost_j) {v_above : (Nat → Int32)} {v_above_j : (Nat → Int)} (t_v_above : mA v_above = v_above_j) {v_fits : (Nat → Int32)} {v_fits_j : (Nat → Int)} (t_v_fits : mA v_fits = v_fits_j) {v_goodWorths : (Nat → Int32)} {v_goodWorths_j : (Nat → Int)} (t_v_goodWorths : mA v_goodWorths = v_goodWorths_j) {v_matcher_cameFrom : (Nat → Int32)} {v_matcher_cameFrom_j : (Nat → Int)} (t_v_matcher_cameFrom : mA v_matcher_cameFrom = v_matcher_cameFrom_j) {v_matcher_columnPrices : (Nat → Int64)} {v_matcher_columnPrices_j : (Nat → Int)} (t_v_matcher_columnPrices : mL v_matcher_columnPrices = v_matcher_columnPrices_j) {v_matcher_costs : (Nat → Nat → Int64)} {v_matcher_costs_j : (Nat → Nat → Int)} (t_v_matcher_costs : mLL v_matcher_costs = v_matcher_costs_j) {v_matcher_gaps : (Nat → Int64)} {v_matcher_gaps_j : (Nat → Int)} (t_v_matcher_gaps : mL v_matcher_gaps = v_matcher_gaps_j) {v_matcher_isReached : (Nat → Int32)} {v_matcher_isReached_j : (Nat → Int)} (t_v_matcher_isReached : mA v_matcher_isReached = v_matcher_isReached_j) {v_matcher_mates : (Nat → Int32)} {v_matcher_mates_j : (Nat → Int)} (t_v_matcher_mates : mA v_matcher_mates = v_matcher_mates_j) {v_matcher_rowOf : (Nat → Int32)} {v_matcher_rowOf_j : (Nat → Int)} (t_v_matcher_rowOf : mA v_matcher_rowOf = v_matcher_rowOf_j) {v_matcher_rowPrices : (Nat → Int64)} {v_matcher_rowPrices_j : (Nat → Int)} (t_v_matcher_rowPrices : mL v_matcher_rowPrices = v_matcher_rowPrices_j) {v_places : (Nat → Int32)} {v_places_j : (Nat → Int)} (t_v_places : mA v_places = v_places_j) {v_row : (Nat → Int32)} {v_row_j : (Nat → Int)} (t_v_row : mA v_row = v_row_j) {v_sizes : (Nat → Int32)} {v_sizes_j : (Nat → Int)} (t_v_sizes : mA v_sizes = v_sizes_j) {v_worths : (Nat → Int32)} {v_worths_j : (Nat → Int)} (t_v_worths : mA v_worths = v_worths_j) : tl (mP mI (mP mA (mP mA (mP mA (mP mA (mP mL (mP mLL (mP mL (mP mA (mP mA (mP mA (mP mL mA)))))))))))) (iChest_matchAll N_j v_grain_j v_isMatched_j v_limit_j v_lost_j v_above_j v_fits_j v_goodWorths_j v_matcher_cameFrom_j v_matcher_columnPrices_j v_matcher_costs_j v_matcher_gaps_j v_matcher_isReached_j v_matcher_mates_j v_matcher_rowOf_j v_matcher_rowPrices_j v_places_j v_row_j v_sizes_j v_worths_j) (pChest_matchAll N v_grain v_isMatched v_limit v_lost v_above v_fits v_goodWorths v_matcher_cameFrom v_matcher_columnPrices v_matcher_costs v_matcher_gaps v_matcher_isReached v_matcher_mates v_matcher_rowOf v_matcher_rowPrices v_places v_row v_sizes v_worths) := by
  subst t_N
  subst t_v_grain
  subst t_v_isMatched
  subst t_v_limit
  subst t_v_lost
  subst t_v_above
  subst t_v_fits
  subst t_v_goodWorths
  subst t_v_matcher_cameFrom
  subst t_v_matcher_columnPrices
  subst t_v_matcher_costs
  subst t_v_matcher_gaps
  subst t_v_matcher_isReached
  subst t_v_matcher_mates
  subst t_v_matcher_rowOf
  subst t_v_matcher_rowPrices
  subst t_v_places
  subst t_v_row
  subst t_v_sizes
  subst t_v_worths
  unfold iChest_matchAll pChest_matchAll
  refine tl_ite (jc_eq (Eq.refl (mI v_isMatched)) jlitI_0) ?_ ?_
  · refine tl_bd4 (t_pMatcher_begin (Eq.refl N) (Eq.refl (mL v_matcher_columnPrices)) (Eq.refl (mLL v_matcher_costs)) (Eq.refl (mA v_matcher_rowOf)) (Eq.refl (mL v_matcher_rowPrices))) (fun v_matcher_columnPrices_c1 v_matcher_costs_c1 v_matcher_rowOf_c1 v_matcher_rowPrices_c1 => ?_)
    exact (t_pChest_matchAll_b17 (Eq.refl N) (Eq.refl (mI v_grain)) (Eq.refl (mI v_limit)) (Eq.refl (mI v_lost)) (Eq.refl (mA v_places)) (Eq.refl (mA v_sizes)) (Eq.refl (mA v_worths)) (Eq.refl (mI v_isMatched)) (Eq.refl (mA v_goodWorths)) (Eq.refl (mA v_matcher_cameFrom)) (Eq.refl (mL v_matcher_columnPrices_c1)) (Eq.refl (mL v_matcher_gaps)) (Eq.refl (mA v_matcher_isReached)) (Eq.refl (mA v_matcher_mates)) (Eq.refl (mA v_matcher_rowOf_c1)) (Eq.refl (mL v_matcher_rowPrices_c1)) (fun v_above_k5 v_fits_k6 v_matcher_costs_k7 e19_ => by exact (t_pChest_matchAll_b73 (Eq.refl N) (Eq.refl (mI v_grain)) (Eq.refl (mI v_limit)) (Eq.refl (mI v_lost)) (Eq.refl (mA v_places)) (Eq.refl (mA v_sizes)) (Eq.refl (mA v_worths)) (Eq.refl (mI v_isMatched)) (Eq.refl (mA v_above_k5)) (Eq.refl (mA v_fits_k6)) (Eq.refl (mA v_goodWorths)) (Eq.refl (mA v_matcher_cameFrom)) (Eq.refl (mL v_matcher_columnPrices_c1)) (Eq.refl (mLL v_matcher_costs_k7)) (Eq.refl (mL v_matcher_gaps)) (Eq.refl (mA v_matcher_isReached)) (Eq.refl (mA v_matcher_mates)) (Eq.refl (mA v_matcher_rowOf_c1)) (Eq.refl (mL v_matcher_rowPrices_c1)) (Eq.refl (mA e19_)))) (Eq.refl N) jlitI_0 (Eq.refl (mA v_above)) (Eq.refl (mA v_fits)) (Eq.refl (mLL v_matcher_costs_c1)) (Eq.refl (mA v_row)))
  · exact (tl_some (jp2 (Eq.refl (mI v_isMatched)) (jp2 (Eq.refl (mA v_above)) (jp2 (Eq.refl (mA v_fits)) (jp2 (Eq.refl (mA v_goodWorths)) (jp2 (Eq.refl (mA v_matcher_cameFrom)) (jp2 (Eq.refl (mL v_matcher_columnPrices)) (jp2 (Eq.refl (mLL v_matcher_costs)) (jp2 (Eq.refl (mL v_matcher_gaps)) (jp2 (Eq.refl (mA v_matcher_isReached)) (jp2 (Eq.refl (mA v_matcher_mates)) (jp2 (Eq.refl (mA v_matcher_rowOf)) (jp2 (Eq.refl (mL v_matcher_rowPrices)) (Eq.refl (mA v_row)))))))))))))))
theorem t_pChest_mateOf {N N_j : Nat} (t_N : N = N_j) {a1 : Int32} {a1_j : Int} (t_a1 : mI a1 = a1_j) {v_grain : Int32} {v_grain_j : Int} (t_v_grain : mI v_grain = v_grain_j) {v_isMatched : Int32} {v_isMatched_j : Int} (t_v_isMatched : mI v_isMatched = v_isMatched_j) {v_limit : Int32} {v_limit_j : Int} (t_v_limit : mI v_limit = v_limit_j) {v_lost : Int32} {v_lost_j : Int} (t_v_lost : mI v_lost = v_lost_j) {v_above : (Nat → Int32)} {v_above_j : (Nat → Int)} (t_v_above : mA v_above = v_above_j) {v_fits : (Nat → Int32)} {v_fits_j : (Nat → Int)} (t_v_fits : mA v_fits = v_fits_j) {v_goodWorths : (Nat → Int32)} {v_goodWorths_j : (Nat → Int)} (t_v_goodWorths : mA v_goodWorths = v_goodWorths_j) {v_matcher_cameFrom : (Nat → Int32)} {v_matcher_cameFrom_j : (Nat → Int)} (t_v_matcher_cameFrom : mA v_matcher_cameFrom = v_matcher_cameFrom_j) {v_matcher_columnPrices : (Nat → Int64)} {v_matcher_columnPrices_j : (Nat → Int)} (t_v_matcher_columnPrices : mL v_matcher_columnPrices = v_matcher_columnPrices_j) {v_matcher_costs : (Nat → Nat → Int64)} {v_matcher_costs_j : (Nat → Nat → Int)} (t_v_matcher_costs : mLL v_matcher_costs = v_matcher_costs_j) {v_matcher_gaps : (Nat → Int64)} {v_matcher_gaps_j : (Nat → Int)} (t_v_matcher_gaps : mL v_matcher_gaps = v_matcher_gaps_j) {v_matcher_isReached : (Nat → Int32)} {v_matcher_isReached_j : (Nat → Int)} (t_v_matcher_isReached : mA v_matcher_isReached = v_matcher_isReached_j) {v_matcher_mates : (Nat → Int32)} {v_matcher_mates_j : (Nat → Int)} (t_v_matcher_mates : mA v_matcher_mates = v_matcher_mates_j) {v_matcher_rowOf : (Nat → Int32)} {v_matcher_rowOf_j : (Nat → Int)} (t_v_matcher_rowOf : mA v_matcher_rowOf = v_matcher_rowOf_j) {v_matcher_rowPrices : (Nat → Int64)} {v_matcher_rowPrices_j : (Nat → Int)} (t_v_matcher_rowPrices : mL v_matcher_rowPrices = v_matcher_rowPrices_j) {v_places : (Nat → Int32)} {v_places_j : (Nat → Int)} (t_v_places : mA v_places = v_places_j) {v_row : (Nat → Int32)} {v_row_j : (Nat → Int)} (t_v_row : mA v_row = v_row_j) {v_sizes : (Nat → Int32)} {v_sizes_j : (Nat → Int)} (t_v_sizes : mA v_sizes = v_sizes_j) {v_worths : (Nat → Int32)} {v_worths_j : (Nat → Int)} (t_v_worths : mA v_worths = v_worths_j) : tl (mP mI (mP mI (mP mA (mP mA (mP mA (mP mA (mP mL (mP mLL (mP mL (mP mA (mP mA (mP mA (mP mL mA))))))))))))) (iChest_mateOf N_j a1_j v_grain_j v_isMatched_j v_limit_j v_lost_j v_above_j v_fits_j v_goodWorths_j v_matcher_cameFrom_j v_matcher_columnPrices_j v_matcher_costs_j v_matcher_gaps_j v_matcher_isReached_j v_matcher_mates_j v_matcher_rowOf_j v_matcher_rowPrices_j v_places_j v_row_j v_sizes_j v_worths_j) (pChest_mateOf N a1 v_grain v_isMatched v_limit v_lost v_above v_fits v_goodWorths v_matcher_cameFrom v_matcher_columnPrices v_matcher_costs v_matcher_gaps v_matcher_isReached v_matcher_mates v_matcher_rowOf v_matcher_rowPrices v_places v_row v_sizes v_worths) := by
  subst t_N
  subst t_a1
  subst t_v_grain
  subst t_v_isMatched
  subst t_v_limit
  subst t_v_lost
  subst t_v_above
  subst t_v_fits
  subst t_v_goodWorths
  subst t_v_matcher_cameFrom
  subst t_v_matcher_columnPrices
  subst t_v_matcher_costs
  subst t_v_matcher_gaps
  subst t_v_matcher_isReached
  subst t_v_matcher_mates
  subst t_v_matcher_rowOf
  subst t_v_matcher_rowPrices
  subst t_v_places
  subst t_v_row
  subst t_v_sizes
  subst t_v_worths
  unfold iChest_mateOf pChest_mateOf
  refine tl_bd13 (t_pChest_matchAll (Eq.refl N) (Eq.refl (mI v_grain)) (Eq.refl (mI v_isMatched)) (Eq.refl (mI v_limit)) (Eq.refl (mI v_lost)) (Eq.refl (mA v_above)) (Eq.refl (mA v_fits)) (Eq.refl (mA v_goodWorths)) (Eq.refl (mA v_matcher_cameFrom)) (Eq.refl (mL v_matcher_columnPrices)) (Eq.refl (mLL v_matcher_costs)) (Eq.refl (mL v_matcher_gaps)) (Eq.refl (mA v_matcher_isReached)) (Eq.refl (mA v_matcher_mates)) (Eq.refl (mA v_matcher_rowOf)) (Eq.refl (mL v_matcher_rowPrices)) (Eq.refl (mA v_places)) (Eq.refl (mA v_row)) (Eq.refl (mA v_sizes)) (Eq.refl (mA v_worths))) (fun v_isMatched_c1 v_above_c1 v_fits_c1 v_goodWorths_c1 v_matcher_cameFrom_c1 v_matcher_columnPrices_c1 v_matcher_costs_c1 v_matcher_gaps_c1 v_matcher_isReached_c1 v_matcher_mates_c1 v_matcher_rowOf_c1 v_matcher_rowPrices_c1 v_row_c1 => ?_)
  refine tl_bd1 (t_pMatcher_foilOf (Eq.refl (mI a1)) (Eq.refl (mA v_matcher_mates_c1))) (fun rc2 => ?_)
  exact (tl_some (jp2 (Eq.refl (mI rc2)) (jp2 (Eq.refl (mI v_isMatched_c1)) (jp2 (Eq.refl (mA v_above_c1)) (jp2 (Eq.refl (mA v_fits_c1)) (jp2 (Eq.refl (mA v_goodWorths_c1)) (jp2 (Eq.refl (mA v_matcher_cameFrom_c1)) (jp2 (Eq.refl (mL v_matcher_columnPrices_c1)) (jp2 (Eq.refl (mLL v_matcher_costs_c1)) (jp2 (Eq.refl (mL v_matcher_gaps_c1)) (jp2 (Eq.refl (mA v_matcher_isReached_c1)) (jp2 (Eq.refl (mA v_matcher_mates_c1)) (jp2 (Eq.refl (mA v_matcher_rowOf_c1)) (jp2 (Eq.refl (mL v_matcher_rowPrices_c1)) (Eq.refl (mA v_row_c1))))))))))))))))
theorem t_pChest_pairsMatched_b8_F {N N_j : Nat} (t_N : N = N_j) {v_grain : Int32} {v_grain_j : Int} (t_v_grain : mI v_grain = v_grain_j) {v_limit : Int32} {v_limit_j : Int} (t_v_limit : mI v_limit = v_limit_j) {v_lost : Int32} {v_lost_j : Int} (t_v_lost : mI v_lost = v_lost_j) {v_places : (Nat → Int32)} {v_places_j : (Nat → Int)} (t_v_places : mA v_places = v_places_j) {v_sizes : (Nat → Int32)} {v_sizes_j : (Nat → Int)} (t_v_sizes : mA v_sizes = v_sizes_j) {v_worths : (Nat → Int32)} {v_worths_j : (Nat → Int)} (t_v_worths : mA v_worths = v_worths_j) {v_isMatched : Int32} {v_isMatched_j : Int} (t_v_isMatched : mI v_isMatched = v_isMatched_j) {v_above : (Nat → Int32)} {v_above_j : (Nat → Int)} (t_v_above : mA v_above = v_above_j) {v_fits : (Nat → Int32)} {v_fits_j : (Nat → Int)} (t_v_fits : mA v_fits = v_fits_j) {v_goodWorths : (Nat → Int32)} {v_goodWorths_j : (Nat → Int)} (t_v_goodWorths : mA v_goodWorths = v_goodWorths_j) {v_matcher_cameFrom : (Nat → Int32)} {v_matcher_cameFrom_j : (Nat → Int)} (t_v_matcher_cameFrom : mA v_matcher_cameFrom = v_matcher_cameFrom_j) {v_matcher_columnPrices : (Nat → Int64)} {v_matcher_columnPrices_j : (Nat → Int)} (t_v_matcher_columnPrices : mL v_matcher_columnPrices = v_matcher_columnPrices_j) {v_matcher_costs : (Nat → Nat → Int64)} {v_matcher_costs_j : (Nat → Nat → Int)} (t_v_matcher_costs : mLL v_matcher_costs = v_matcher_costs_j) {v_matcher_gaps : (Nat → Int64)} {v_matcher_gaps_j : (Nat → Int)} (t_v_matcher_gaps : mL v_matcher_gaps = v_matcher_gaps_j) {v_matcher_isReached : (Nat → Int32)} {v_matcher_isReached_j : (Nat → Int)} (t_v_matcher_isReached : mA v_matcher_isReached = v_matcher_isReached_j) {v_matcher_mates : (Nat → Int32)} {v_matcher_mates_j : (Nat → Int)} (t_v_matcher_mates : mA v_matcher_mates = v_matcher_mates_j) {v_matcher_rowOf : (Nat → Int32)} {v_matcher_rowOf_j : (Nat → Int)} (t_v_matcher_rowOf : mA v_matcher_rowOf = v_matcher_rowOf_j) {v_matcher_rowPrices : (Nat → Int64)} {v_matcher_rowPrices_j : (Nat → Int)} (t_v_matcher_rowPrices : mL v_matcher_rowPrices = v_matcher_rowPrices_j) {v_row : (Nat → Int32)} {v_row_j : (Nat → Int)} (t_v_row : mA v_row = v_row_j) {self : Int32 → Int32 → Option R_pChest_pairsMatched} {self_j : Int → Int → Option R_iChest_pairsMatched} (t_self : ∀ (q0_ : Int32) (q1_ : Int32), tl (mP mI (mP mI (mP mA (mP mA (mP mA (mP mA (mP mL (mP mLL (mP mL (mP mA (mP mA (mP mA (mP mL mA))))))))))))) (self_j (mI q0_) (mI q1_)) (self q0_ q1_)) {x1 : Int32} {x1_j : Int} (t_x1 : mI x1 = x1_j) {x2 : Int32} {x2_j : Int} (t_x2 : mI x2 = x2_j) : tl (mP mI (mP mI (mP mA (mP mA (mP mA (mP mA (mP mL (mP mLL (mP mL (mP mA (mP mA (mP mA (mP mL mA))))))))))))) (iChest_pairsMatched_b8_F N_j v_grain_j v_limit_j v_lost_j v_places_j v_sizes_j v_worths_j v_isMatched_j v_above_j v_fits_j v_goodWorths_j v_matcher_cameFrom_j v_matcher_columnPrices_j v_matcher_costs_j v_matcher_gaps_j v_matcher_isReached_j v_matcher_mates_j v_matcher_rowOf_j v_matcher_rowPrices_j v_row_j self_j x1_j x2_j) (pChest_pairsMatched_b8_F N v_grain v_limit v_lost v_places v_sizes v_worths v_isMatched v_above v_fits v_goodWorths v_matcher_cameFrom v_matcher_columnPrices v_matcher_costs v_matcher_gaps v_matcher_isReached v_matcher_mates v_matcher_rowOf v_matcher_rowPrices v_row self x1 x2) := by
  subst t_N
  subst t_v_grain
  subst t_v_limit
  subst t_v_lost
  subst t_v_places
  subst t_v_sizes
  subst t_v_worths
  subst t_v_isMatched
  subst t_v_above
  subst t_v_fits
  subst t_v_goodWorths
  subst t_v_matcher_cameFrom
  subst t_v_matcher_columnPrices
  subst t_v_matcher_costs
  subst t_v_matcher_gaps
  subst t_v_matcher_isReached
  subst t_v_matcher_mates
  subst t_v_matcher_rowOf
  subst t_v_matcher_rowPrices
  subst t_v_row
  subst t_x1
  subst t_x2
  unfold iChest_pairsMatched_b8_F pChest_pairsMatched_b8_F
  refine tl_ite (jc_le jlitI_10 (Eq.refl (mI x2))) ?_ ?_
  · exact (tl_some (jp2 (Eq.refl (mI x1)) (jp2 (Eq.refl (mI v_isMatched)) (jp2 (Eq.refl (mA v_above)) (jp2 (Eq.refl (mA v_fits)) (jp2 (Eq.refl (mA v_goodWorths)) (jp2 (Eq.refl (mA v_matcher_cameFrom)) (jp2 (Eq.refl (mL v_matcher_columnPrices)) (jp2 (Eq.refl (mLL v_matcher_costs)) (jp2 (Eq.refl (mL v_matcher_gaps)) (jp2 (Eq.refl (mA v_matcher_isReached)) (jp2 (Eq.refl (mA v_matcher_mates)) (jp2 (Eq.refl (mA v_matcher_rowOf)) (jp2 (Eq.refl (mL v_matcher_rowPrices)) (Eq.refl (mA v_row))))))))))))))))
  · refine tl_bd1 (t_pMatcher_foilOf (Eq.refl (mI x2)) (Eq.refl (mA v_matcher_mates))) (fun rc2 => ?_)
    refine tl_ite (jc_eq (Eq.refl (mI rc2)) jlitI_m1) ?_ ?_
    · refine tl_g (fun h1 => ?_)
      refine tl_g (fun h2 => ?_)
      exact (tl_e2 (ja_add (Eq.refl (mI x1)) jlitI_0 h1) (ja_add (Eq.refl (mI x2)) jlitI_1 h2) (t_self _ _))
    · refine tl_g (fun h3 => ?_)
      refine tl_g (fun h4 => ?_)
      exact (tl_e2 (ja_add (Eq.refl (mI x1)) jlitI_1 h3) (ja_add (Eq.refl (mI x2)) jlitI_1 h4) (t_self _ _))
theorem t_pChest_pairsMatched_b8 {N N_j : Nat} (t_N : N = N_j) {v_grain : Int32} {v_grain_j : Int} (t_v_grain : mI v_grain = v_grain_j) {v_limit : Int32} {v_limit_j : Int} (t_v_limit : mI v_limit = v_limit_j) {v_lost : Int32} {v_lost_j : Int} (t_v_lost : mI v_lost = v_lost_j) {v_places : (Nat → Int32)} {v_places_j : (Nat → Int)} (t_v_places : mA v_places = v_places_j) {v_sizes : (Nat → Int32)} {v_sizes_j : (Nat → Int)} (t_v_sizes : mA v_sizes = v_sizes_j) {v_worths : (Nat → Int32)} {v_worths_j : (Nat → Int)} (t_v_worths : mA v_worths = v_worths_j) {v_isMatched : Int32} {v_isMatched_j : Int} (t_v_isMatched : mI v_isMatched = v_isMatched_j) {v_above : (Nat → Int32)} {v_above_j : (Nat → Int)} (t_v_above : mA v_above = v_above_j) {v_fits : (Nat → Int32)} {v_fits_j : (Nat → Int)} (t_v_fits : mA v_fits = v_fits_j) {v_goodWorths : (Nat → Int32)} {v_goodWorths_j : (Nat → Int)} (t_v_goodWorths : mA v_goodWorths = v_goodWorths_j) {v_matcher_cameFrom : (Nat → Int32)} {v_matcher_cameFrom_j : (Nat → Int)} (t_v_matcher_cameFrom : mA v_matcher_cameFrom = v_matcher_cameFrom_j) {v_matcher_columnPrices : (Nat → Int64)} {v_matcher_columnPrices_j : (Nat → Int)} (t_v_matcher_columnPrices : mL v_matcher_columnPrices = v_matcher_columnPrices_j) {v_matcher_costs : (Nat → Nat → Int64)} {v_matcher_costs_j : (Nat → Nat → Int)} (t_v_matcher_costs : mLL v_matcher_costs = v_matcher_costs_j) {v_matcher_gaps : (Nat → Int64)} {v_matcher_gaps_j : (Nat → Int)} (t_v_matcher_gaps : mL v_matcher_gaps = v_matcher_gaps_j) {v_matcher_isReached : (Nat → Int32)} {v_matcher_isReached_j : (Nat → Int)} (t_v_matcher_isReached : mA v_matcher_isReached = v_matcher_isReached_j) {v_matcher_mates : (Nat → Int32)} {v_matcher_mates_j : (Nat → Int)} (t_v_matcher_mates : mA v_matcher_mates = v_matcher_mates_j) {v_matcher_rowOf : (Nat → Int32)} {v_matcher_rowOf_j : (Nat → Int)} (t_v_matcher_rowOf : mA v_matcher_rowOf = v_matcher_rowOf_j) {v_matcher_rowPrices : (Nat → Int64)} {v_matcher_rowPrices_j : (Nat → Int)} (t_v_matcher_rowPrices : mL v_matcher_rowPrices = v_matcher_rowPrices_j) {v_row : (Nat → Int32)} {v_row_j : (Nat → Int)} (t_v_row : mA v_row = v_row_j) {n n_j : Nat} (t_n : n = n_j) {w0_ : Int32} {w0__j : Int} (t_w0_ : mI w0_ = w0__j) {w1_ : Int32} {w1__j : Int} (t_w1_ : mI w1_ = w1__j) : tl (mP mI (mP mI (mP mA (mP mA (mP mA (mP mA (mP mL (mP mLL (mP mL (mP mA (mP mA (mP mA (mP mL mA))))))))))))) (iChest_pairsMatched_b8 N_j v_grain_j v_limit_j v_lost_j v_places_j v_sizes_j v_worths_j v_isMatched_j v_above_j v_fits_j v_goodWorths_j v_matcher_cameFrom_j v_matcher_columnPrices_j v_matcher_costs_j v_matcher_gaps_j v_matcher_isReached_j v_matcher_mates_j v_matcher_rowOf_j v_matcher_rowPrices_j v_row_j n_j w0__j w1__j) (pChest_pairsMatched_b8 N v_grain v_limit v_lost v_places v_sizes v_worths v_isMatched v_above v_fits v_goodWorths v_matcher_cameFrom v_matcher_columnPrices v_matcher_costs v_matcher_gaps v_matcher_isReached v_matcher_mates v_matcher_rowOf v_matcher_rowPrices v_row n w0_ w1_) := by
  subst t_N
  subst t_v_grain
  subst t_v_limit
  subst t_v_lost
  subst t_v_places
  subst t_v_sizes
  subst t_v_worths
  subst t_v_isMatched
  subst t_v_above
  subst t_v_fits
  subst t_v_goodWorths
  subst t_v_matcher_cameFrom
  subst t_v_matcher_columnPrices
  subst t_v_matcher_costs
  subst t_v_matcher_gaps
  subst t_v_matcher_isReached
  subst t_v_matcher_mates
  subst t_v_matcher_rowOf
  subst t_v_matcher_rowPrices
  subst t_v_row
  subst t_n
  subst t_w0_
  subst t_w1_
  exact tl_zlp2 (fun s2 s hs w0_ w1_ => t_pChest_pairsMatched_b8_F (Eq.refl N) (Eq.refl (mI v_grain)) (Eq.refl (mI v_limit)) (Eq.refl (mI v_lost)) (Eq.refl (mA v_places)) (Eq.refl (mA v_sizes)) (Eq.refl (mA v_worths)) (Eq.refl (mI v_isMatched)) (Eq.refl (mA v_above)) (Eq.refl (mA v_fits)) (Eq.refl (mA v_goodWorths)) (Eq.refl (mA v_matcher_cameFrom)) (Eq.refl (mL v_matcher_columnPrices)) (Eq.refl (mLL v_matcher_costs)) (Eq.refl (mL v_matcher_gaps)) (Eq.refl (mA v_matcher_isReached)) (Eq.refl (mA v_matcher_mates)) (Eq.refl (mA v_matcher_rowOf)) (Eq.refl (mL v_matcher_rowPrices)) (Eq.refl (mA v_row)) hs (Eq.refl (mI w0_)) (Eq.refl (mI w1_))) n w0_ w1_
theorem t_pChest_pairsMatched {N N_j : Nat} (t_N : N = N_j) {v_grain : Int32} {v_grain_j : Int} (t_v_grain : mI v_grain = v_grain_j) {v_isMatched : Int32} {v_isMatched_j : Int} (t_v_isMatched : mI v_isMatched = v_isMatched_j) {v_limit : Int32} {v_limit_j : Int} (t_v_limit : mI v_limit = v_limit_j) {v_lost : Int32} {v_lost_j : Int} (t_v_lost : mI v_lost = v_lost_j) {v_above : (Nat → Int32)} {v_above_j : (Nat → Int)} (t_v_above : mA v_above = v_above_j) {v_fits : (Nat → Int32)} {v_fits_j : (Nat → Int)} (t_v_fits : mA v_fits = v_fits_j) {v_goodWorths : (Nat → Int32)} {v_goodWorths_j : (Nat → Int)} (t_v_goodWorths : mA v_goodWorths = v_goodWorths_j) {v_matcher_cameFrom : (Nat → Int32)} {v_matcher_cameFrom_j : (Nat → Int)} (t_v_matcher_cameFrom : mA v_matcher_cameFrom = v_matcher_cameFrom_j) {v_matcher_columnPrices : (Nat → Int64)} {v_matcher_columnPrices_j : (Nat → Int)} (t_v_matcher_columnPrices : mL v_matcher_columnPrices = v_matcher_columnPrices_j) {v_matcher_costs : (Nat → Nat → Int64)} {v_matcher_costs_j : (Nat → Nat → Int)} (t_v_matcher_costs : mLL v_matcher_costs = v_matcher_costs_j) {v_matcher_gaps : (Nat → Int64)} {v_matcher_gaps_j : (Nat → Int)} (t_v_matcher_gaps : mL v_matcher_gaps = v_matcher_gaps_j) {v_matcher_isReached : (Nat → Int32)} {v_matcher_isReached_j : (Nat → Int)} (t_v_matcher_isReached : mA v_matcher_isReached = v_matcher_isReached_j) {v_matcher_mates : (Nat → Int32)} {v_matcher_mates_j : (Nat → Int)} (t_v_matcher_mates : mA v_matcher_mates = v_matcher_mates_j) {v_matcher_rowOf : (Nat → Int32)} {v_matcher_rowOf_j : (Nat → Int)} (t_v_matcher_rowOf : mA v_matcher_rowOf = v_matcher_rowOf_j) {v_matcher_rowPrices : (Nat → Int64)} {v_matcher_rowPrices_j : (Nat → Int)} (t_v_matcher_rowPrices : mL v_matcher_rowPrices = v_matcher_rowPrices_j) {v_places : (Nat → Int32)} {v_places_j : (Nat → Int)} (t_v_places : mA v_places = v_places_j) {v_row : (Nat → Int32)} {v_row_j : (Nat → Int)} (t_v_row : mA v_row = v_row_j) {v_sizes : (Nat → Int32)} {v_sizes_j : (Nat → Int)} (t_v_sizes : mA v_sizes = v_sizes_j) {v_worths : (Nat → Int32)} {v_worths_j : (Nat → Int)} (t_v_worths : mA v_worths = v_worths_j) : tl (mP mI (mP mI (mP mA (mP mA (mP mA (mP mA (mP mL (mP mLL (mP mL (mP mA (mP mA (mP mA (mP mL mA))))))))))))) (iChest_pairsMatched N_j v_grain_j v_isMatched_j v_limit_j v_lost_j v_above_j v_fits_j v_goodWorths_j v_matcher_cameFrom_j v_matcher_columnPrices_j v_matcher_costs_j v_matcher_gaps_j v_matcher_isReached_j v_matcher_mates_j v_matcher_rowOf_j v_matcher_rowPrices_j v_places_j v_row_j v_sizes_j v_worths_j) (pChest_pairsMatched N v_grain v_isMatched v_limit v_lost v_above v_fits v_goodWorths v_matcher_cameFrom v_matcher_columnPrices v_matcher_costs v_matcher_gaps v_matcher_isReached v_matcher_mates v_matcher_rowOf v_matcher_rowPrices v_places v_row v_sizes v_worths) := by
  subst t_N
  subst t_v_grain
  subst t_v_isMatched
  subst t_v_limit
  subst t_v_lost
  subst t_v_above
  subst t_v_fits
  subst t_v_goodWorths
  subst t_v_matcher_cameFrom
  subst t_v_matcher_columnPrices
  subst t_v_matcher_costs
  subst t_v_matcher_gaps
  subst t_v_matcher_isReached
  subst t_v_matcher_mates
  subst t_v_matcher_rowOf
  subst t_v_matcher_rowPrices
  subst t_v_places
  subst t_v_row
  subst t_v_sizes
  subst t_v_worths
  unfold iChest_pairsMatched pChest_pairsMatched
  refine tl_bd13 (t_pChest_matchAll (Eq.refl N) (Eq.refl (mI v_grain)) (Eq.refl (mI v_isMatched)) (Eq.refl (mI v_limit)) (Eq.refl (mI v_lost)) (Eq.refl (mA v_above)) (Eq.refl (mA v_fits)) (Eq.refl (mA v_goodWorths)) (Eq.refl (mA v_matcher_cameFrom)) (Eq.refl (mL v_matcher_columnPrices)) (Eq.refl (mLL v_matcher_costs)) (Eq.refl (mL v_matcher_gaps)) (Eq.refl (mA v_matcher_isReached)) (Eq.refl (mA v_matcher_mates)) (Eq.refl (mA v_matcher_rowOf)) (Eq.refl (mL v_matcher_rowPrices)) (Eq.refl (mA v_places)) (Eq.refl (mA v_row)) (Eq.refl (mA v_sizes)) (Eq.refl (mA v_worths))) (fun v_isMatched_c1 v_above_c1 v_fits_c1 v_goodWorths_c1 v_matcher_cameFrom_c1 v_matcher_columnPrices_c1 v_matcher_costs_c1 v_matcher_gaps_c1 v_matcher_isReached_c1 v_matcher_mates_c1 v_matcher_rowOf_c1 v_matcher_rowPrices_c1 v_row_c1 => ?_)
  exact (t_pChest_pairsMatched_b8 (Eq.refl N) (Eq.refl (mI v_grain)) (Eq.refl (mI v_limit)) (Eq.refl (mI v_lost)) (Eq.refl (mA v_places)) (Eq.refl (mA v_sizes)) (Eq.refl (mA v_worths)) (Eq.refl (mI v_isMatched_c1)) (Eq.refl (mA v_above_c1)) (Eq.refl (mA v_fits_c1)) (Eq.refl (mA v_goodWorths_c1)) (Eq.refl (mA v_matcher_cameFrom_c1)) (Eq.refl (mL v_matcher_columnPrices_c1)) (Eq.refl (mLL v_matcher_costs_c1)) (Eq.refl (mL v_matcher_gaps_c1)) (Eq.refl (mA v_matcher_isReached_c1)) (Eq.refl (mA v_matcher_mates_c1)) (Eq.refl (mA v_matcher_rowOf_c1)) (Eq.refl (mL v_matcher_rowPrices_c1)) (Eq.refl (mA v_row_c1)) (Eq.refl N) jlitI_0 jlitI_0)
theorem t_pChest_fitMatched_b8_F {N N_j : Nat} (t_N : N = N_j) {v_grain : Int32} {v_grain_j : Int} (t_v_grain : mI v_grain = v_grain_j) {v_limit : Int32} {v_limit_j : Int} (t_v_limit : mI v_limit = v_limit_j) {v_lost : Int32} {v_lost_j : Int} (t_v_lost : mI v_lost = v_lost_j) {v_places : (Nat → Int32)} {v_places_j : (Nat → Int)} (t_v_places : mA v_places = v_places_j) {v_sizes : (Nat → Int32)} {v_sizes_j : (Nat → Int)} (t_v_sizes : mA v_sizes = v_sizes_j) {v_worths : (Nat → Int32)} {v_worths_j : (Nat → Int)} (t_v_worths : mA v_worths = v_worths_j) {v_isMatched : Int32} {v_isMatched_j : Int} (t_v_isMatched : mI v_isMatched = v_isMatched_j) {v_goodWorths : (Nat → Int32)} {v_goodWorths_j : (Nat → Int)} (t_v_goodWorths : mA v_goodWorths = v_goodWorths_j) {v_matcher_cameFrom : (Nat → Int32)} {v_matcher_cameFrom_j : (Nat → Int)} (t_v_matcher_cameFrom : mA v_matcher_cameFrom = v_matcher_cameFrom_j) {v_matcher_columnPrices : (Nat → Int64)} {v_matcher_columnPrices_j : (Nat → Int)} (t_v_matcher_columnPrices : mL v_matcher_columnPrices = v_matcher_columnPrices_j) {v_matcher_costs : (Nat → Nat → Int64)} {v_matcher_costs_j : (Nat → Nat → Int)} (t_v_matcher_costs : mLL v_matcher_costs = v_matcher_costs_j) {v_matcher_gaps : (Nat → Int64)} {v_matcher_gaps_j : (Nat → Int)} (t_v_matcher_gaps : mL v_matcher_gaps = v_matcher_gaps_j) {v_matcher_isReached : (Nat → Int32)} {v_matcher_isReached_j : (Nat → Int)} (t_v_matcher_isReached : mA v_matcher_isReached = v_matcher_isReached_j) {v_matcher_mates : (Nat → Int32)} {v_matcher_mates_j : (Nat → Int)} (t_v_matcher_mates : mA v_matcher_mates = v_matcher_mates_j) {v_matcher_rowOf : (Nat → Int32)} {v_matcher_rowOf_j : (Nat → Int)} (t_v_matcher_rowOf : mA v_matcher_rowOf = v_matcher_rowOf_j) {v_matcher_rowPrices : (Nat → Int64)} {v_matcher_rowPrices_j : (Nat → Int)} (t_v_matcher_rowPrices : mL v_matcher_rowPrices = v_matcher_rowPrices_j) {self : Int32 → Int32 → (Nat → Int32) → (Nat → Int32) → (Nat → Int32) → Option R_pChest_fitMatched} {self_j : Int → Int → (Nat → Int) → (Nat → Int) → (Nat → Int) → Option R_iChest_fitMatched} (t_self : ∀ (q0_ : Int32) (q1_ : Int32) (q2_ : (Nat → Int32)) (q3_ : (Nat → Int32)) (q4_ : (Nat → Int32)), tl (mP mI (mP mI (mP mA (mP mA (mP mA (mP mA (mP mL (mP mLL (mP mL (mP mA (mP mA (mP mA (mP mL mA))))))))))))) (self_j (mI q0_) (mI q1_) (mA q2_) (mA q3_) (mA q4_)) (self q0_ q1_ q2_ q3_ q4_)) {x1 : Int32} {x1_j : Int} (t_x1 : mI x1 = x1_j) {x2 : Int32} {x2_j : Int} (t_x2 : mI x2 = x2_j) {v_above : (Nat → Int32)} {v_above_j : (Nat → Int)} (t_v_above : mA v_above = v_above_j) {v_fits : (Nat → Int32)} {v_fits_j : (Nat → Int)} (t_v_fits : mA v_fits = v_fits_j) {v_row : (Nat → Int32)} {v_row_j : (Nat → Int)} (t_v_row : mA v_row = v_row_j) : tl (mP mI (mP mI (mP mA (mP mA (mP mA (mP mA (mP mL (mP mLL (mP mL (mP mA (mP mA (mP mA (mP mL mA))))))))))))) (iChest_fitMatched_b8_F N_j v_grain_j v_limit_j v_lost_j v_places_j v_sizes_j v_worths_j v_isMatched_j v_goodWorths_j v_matcher_cameFrom_j v_matcher_columnPrices_j v_matcher_costs_j v_matcher_gaps_j v_matcher_isReached_j v_matcher_mates_j v_matcher_rowOf_j v_matcher_rowPrices_j self_j x1_j x2_j v_above_j v_fits_j v_row_j) (pChest_fitMatched_b8_F N v_grain v_limit v_lost v_places v_sizes v_worths v_isMatched v_goodWorths v_matcher_cameFrom v_matcher_columnPrices v_matcher_costs v_matcher_gaps v_matcher_isReached v_matcher_mates v_matcher_rowOf v_matcher_rowPrices self x1 x2 v_above v_fits v_row) := by
  subst t_N
  subst t_v_grain
  subst t_v_limit
  subst t_v_lost
  subst t_v_places
  subst t_v_sizes
  subst t_v_worths
  subst t_v_isMatched
  subst t_v_goodWorths
  subst t_v_matcher_cameFrom
  subst t_v_matcher_columnPrices
  subst t_v_matcher_costs
  subst t_v_matcher_gaps
  subst t_v_matcher_isReached
  subst t_v_matcher_mates
  subst t_v_matcher_rowOf
  subst t_v_matcher_rowPrices
  subst t_x1
  subst t_x2
  subst t_v_above
  subst t_v_fits
  subst t_v_row
  unfold iChest_fitMatched_b8_F pChest_fitMatched_b8_F
  refine tl_ite (jc_le jlitI_10 (Eq.refl (mI x2))) ?_ ?_
  · exact (tl_some (jp2 (Eq.refl (mI x1)) (jp2 (Eq.refl (mI v_isMatched)) (jp2 (Eq.refl (mA v_above)) (jp2 (Eq.refl (mA v_fits)) (jp2 (Eq.refl (mA v_goodWorths)) (jp2 (Eq.refl (mA v_matcher_cameFrom)) (jp2 (Eq.refl (mL v_matcher_columnPrices)) (jp2 (Eq.refl (mLL v_matcher_costs)) (jp2 (Eq.refl (mL v_matcher_gaps)) (jp2 (Eq.refl (mA v_matcher_isReached)) (jp2 (Eq.refl (mA v_matcher_mates)) (jp2 (Eq.refl (mA v_matcher_rowOf)) (jp2 (Eq.refl (mL v_matcher_rowPrices)) (Eq.refl (mA v_row))))))))))))))))
  · refine tl_bd1 (t_pMatcher_foilOf (Eq.refl (mI x2)) (Eq.refl (mA v_matcher_mates))) (fun rc2 => ?_)
    refine tl_ite (jc_eq (Eq.refl (mI rc2)) jlitI_m1) ?_ ?_
    · refine tl_g (fun h1 => ?_)
      refine tl_g (fun h2 => ?_)
      exact (tl_e5 (ja_add (Eq.refl (mI x1)) jlitI_0 h1) (ja_add (Eq.refl (mI x2)) jlitI_1 h2) (Eq.refl (mA v_above)) (Eq.refl (mA v_fits)) (Eq.refl (mA v_row)) (t_self _ _ _ _ _))
    · refine tl_bd4 (t_pChest_fitOf (Eq.refl N) (Eq.refl (mI x2)) (Eq.refl (mI rc2)) (Eq.refl (mI v_grain)) (Eq.refl (mI v_lost)) (Eq.refl (mA v_above)) (Eq.refl (mA v_fits)) (Eq.refl (mA v_places)) (Eq.refl (mA v_row)) (Eq.refl (mA v_sizes)) (Eq.refl (mA v_worths))) (fun rc3 v_above_c3 v_fits_c3 v_row_c3 => ?_)
      refine tl_g (fun h3 => ?_)
      refine tl_g (fun h4 => ?_)
      exact (tl_e5 (ja_add (Eq.refl (mI x1)) (Eq.refl (mI rc3)) h3) (ja_add (Eq.refl (mI x2)) jlitI_1 h4) (Eq.refl (mA v_above_c3)) (Eq.refl (mA v_fits_c3)) (Eq.refl (mA v_row_c3)) (t_self _ _ _ _ _))
theorem t_pChest_fitMatched_b8 {N N_j : Nat} (t_N : N = N_j) {v_grain : Int32} {v_grain_j : Int} (t_v_grain : mI v_grain = v_grain_j) {v_limit : Int32} {v_limit_j : Int} (t_v_limit : mI v_limit = v_limit_j) {v_lost : Int32} {v_lost_j : Int} (t_v_lost : mI v_lost = v_lost_j) {v_places : (Nat → Int32)} {v_places_j : (Nat → Int)} (t_v_places : mA v_places = v_places_j) {v_sizes : (Nat → Int32)} {v_sizes_j : (Nat → Int)} (t_v_sizes : mA v_sizes = v_sizes_j) {v_worths : (Nat → Int32)} {v_worths_j : (Nat → Int)} (t_v_worths : mA v_worths = v_worths_j) {v_isMatched : Int32} {v_isMatched_j : Int} (t_v_isMatched : mI v_isMatched = v_isMatched_j) {v_goodWorths : (Nat → Int32)} {v_goodWorths_j : (Nat → Int)} (t_v_goodWorths : mA v_goodWorths = v_goodWorths_j) {v_matcher_cameFrom : (Nat → Int32)} {v_matcher_cameFrom_j : (Nat → Int)} (t_v_matcher_cameFrom : mA v_matcher_cameFrom = v_matcher_cameFrom_j) {v_matcher_columnPrices : (Nat → Int64)} {v_matcher_columnPrices_j : (Nat → Int)} (t_v_matcher_columnPrices : mL v_matcher_columnPrices = v_matcher_columnPrices_j) {v_matcher_costs : (Nat → Nat → Int64)} {v_matcher_costs_j : (Nat → Nat → Int)} (t_v_matcher_costs : mLL v_matcher_costs = v_matcher_costs_j) {v_matcher_gaps : (Nat → Int64)} {v_matcher_gaps_j : (Nat → Int)} (t_v_matcher_gaps : mL v_matcher_gaps = v_matcher_gaps_j) {v_matcher_isReached : (Nat → Int32)} {v_matcher_isReached_j : (Nat → Int)} (t_v_matcher_isReached : mA v_matcher_isReached = v_matcher_isReached_j) {v_matcher_mates : (Nat → Int32)} {v_matcher_mates_j : (Nat → Int)} (t_v_matcher_mates : mA v_matcher_mates = v_matcher_mates_j) {v_matcher_rowOf : (Nat → Int32)} {v_matcher_rowOf_j : (Nat → Int)} (t_v_matcher_rowOf : mA v_matcher_rowOf = v_matcher_rowOf_j) {v_matcher_rowPrices : (Nat → Int64)} {v_matcher_rowPrices_j : (Nat → Int)} (t_v_matcher_rowPrices : mL v_matcher_rowPrices = v_matcher_rowPrices_j) {n n_j : Nat} (t_n : n = n_j) {w0_ : Int32} {w0__j : Int} (t_w0_ : mI w0_ = w0__j) {w1_ : Int32} {w1__j : Int} (t_w1_ : mI w1_ = w1__j) {w2_ : (Nat → Int32)} {w2__j : (Nat → Int)} (t_w2_ : mA w2_ = w2__j) {w3_ : (Nat → Int32)} {w3__j : (Nat → Int)} (t_w3_ : mA w3_ = w3__j) {w4_ : (Nat → Int32)} {w4__j : (Nat → Int)} (t_w4_ : mA w4_ = w4__j) : tl (mP mI (mP mI (mP mA (mP mA (mP mA (mP mA (mP mL (mP mLL (mP mL (mP mA (mP mA (mP mA (mP mL mA))))))))))))) (iChest_fitMatched_b8 N_j v_grain_j v_limit_j v_lost_j v_places_j v_sizes_j v_worths_j v_isMatched_j v_goodWorths_j v_matcher_cameFrom_j v_matcher_columnPrices_j v_matcher_costs_j v_matcher_gaps_j v_matcher_isReached_j v_matcher_mates_j v_matcher_rowOf_j v_matcher_rowPrices_j n_j w0__j w1__j w2__j w3__j w4__j) (pChest_fitMatched_b8 N v_grain v_limit v_lost v_places v_sizes v_worths v_isMatched v_goodWorths v_matcher_cameFrom v_matcher_columnPrices v_matcher_costs v_matcher_gaps v_matcher_isReached v_matcher_mates v_matcher_rowOf v_matcher_rowPrices n w0_ w1_ w2_ w3_ w4_) := by
  subst t_N
  subst t_v_grain
  subst t_v_limit
  subst t_v_lost
  subst t_v_places
  subst t_v_sizes
  subst t_v_worths
  subst t_v_isMatched
  subst t_v_goodWorths
  subst t_v_matcher_cameFrom
  subst t_v_matcher_columnPrices
  subst t_v_matcher_costs
  subst t_v_matcher_gaps
  subst t_v_matcher_isReached
  subst t_v_matcher_mates
  subst t_v_matcher_rowOf
  subst t_v_matcher_rowPrices
  subst t_n
  subst t_w0_
  subst t_w1_
  subst t_w2_
  subst t_w3_
  subst t_w4_
  exact tl_zlp5 (fun s2 s hs w0_ w1_ w2_ w3_ w4_ => t_pChest_fitMatched_b8_F (Eq.refl N) (Eq.refl (mI v_grain)) (Eq.refl (mI v_limit)) (Eq.refl (mI v_lost)) (Eq.refl (mA v_places)) (Eq.refl (mA v_sizes)) (Eq.refl (mA v_worths)) (Eq.refl (mI v_isMatched)) (Eq.refl (mA v_goodWorths)) (Eq.refl (mA v_matcher_cameFrom)) (Eq.refl (mL v_matcher_columnPrices)) (Eq.refl (mLL v_matcher_costs)) (Eq.refl (mL v_matcher_gaps)) (Eq.refl (mA v_matcher_isReached)) (Eq.refl (mA v_matcher_mates)) (Eq.refl (mA v_matcher_rowOf)) (Eq.refl (mL v_matcher_rowPrices)) hs (Eq.refl (mI w0_)) (Eq.refl (mI w1_)) (Eq.refl (mA w2_)) (Eq.refl (mA w3_)) (Eq.refl (mA w4_))) n w0_ w1_ w2_ w3_ w4_
theorem t_pChest_fitMatched {N N_j : Nat} (t_N : N = N_j) {v_grain : Int32} {v_grain_j : Int} (t_v_grain : mI v_grain = v_grain_j) {v_isMatched : Int32} {v_isMatched_j : Int} (t_v_isMatched : mI v_isMatched = v_isMatched_j) {v_limit : Int32} {v_limit_j : Int} (t_v_limit : mI v_limit = v_limit_j) {v_lost : Int32} {v_lost_j : Int} (t_v_lost : mI v_lost = v_lost_j) {v_above : (Nat → Int32)} {v_above_j : (Nat → Int)} (t_v_above : mA v_above = v_above_j) {v_fits : (Nat → Int32)} {v_fits_j : (Nat → Int)} (t_v_fits : mA v_fits = v_fits_j) {v_goodWorths : (Nat → Int32)} {v_goodWorths_j : (Nat → Int)} (t_v_goodWorths : mA v_goodWorths = v_goodWorths_j) {v_matcher_cameFrom : (Nat → Int32)} {v_matcher_cameFrom_j : (Nat → Int)} (t_v_matcher_cameFrom : mA v_matcher_cameFrom = v_matcher_cameFrom_j) {v_matcher_columnPrices : (Nat → Int64)} {v_matcher_columnPrices_j : (Nat → Int)} (t_v_matcher_columnPrices : mL v_matcher_columnPrices = v_matcher_columnPrices_j) {v_matcher_costs : (Nat → Nat → Int64)} {v_matcher_costs_j : (Nat → Nat → Int)} (t_v_matcher_costs : mLL v_matcher_costs = v_matcher_costs_j) {v_matcher_gaps : (Nat → Int64)} {v_matcher_gaps_j : (Nat → Int)} (t_v_matcher_gaps : mL v_matcher_gaps = v_matcher_gaps_j) {v_matcher_isReached : (Nat → Int32)} {v_matcher_isReached_j : (Nat → Int)} (t_v_matcher_isReached : mA v_matcher_isReached = v_matcher_isReached_j) {v_matcher_mates : (Nat → Int32)} {v_matcher_mates_j : (Nat → Int)} (t_v_matcher_mates : mA v_matcher_mates = v_matcher_mates_j) {v_matcher_rowOf : (Nat → Int32)} {v_matcher_rowOf_j : (Nat → Int)} (t_v_matcher_rowOf : mA v_matcher_rowOf = v_matcher_rowOf_j) {v_matcher_rowPrices : (Nat → Int64)} {v_matcher_rowPrices_j : (Nat → Int)} (t_v_matcher_rowPrices : mL v_matcher_rowPrices = v_matcher_rowPrices_j) {v_places : (Nat → Int32)} {v_places_j : (Nat → Int)} (t_v_places : mA v_places = v_places_j) {v_row : (Nat → Int32)} {v_row_j : (Nat → Int)} (t_v_row : mA v_row = v_row_j) {v_sizes : (Nat → Int32)} {v_sizes_j : (Nat → Int)} (t_v_sizes : mA v_sizes = v_sizes_j) {v_worths : (Nat → Int32)} {v_worths_j : (Nat → Int)} (t_v_worths : mA v_worths = v_worths_j) : tl (mP mI (mP mI (mP mA (mP mA (mP mA (mP mA (mP mL (mP mLL (mP mL (mP mA (mP mA (mP mA (mP mL mA))))))))))))) (iChest_fitMatched N_j v_grain_j v_isMatched_j v_limit_j v_lost_j v_above_j v_fits_j v_goodWorths_j v_matcher_cameFrom_j v_matcher_columnPrices_j v_matcher_costs_j v_matcher_gaps_j v_matcher_isReached_j v_matcher_mates_j v_matcher_rowOf_j v_matcher_rowPrices_j v_places_j v_row_j v_sizes_j v_worths_j) (pChest_fitMatched N v_grain v_isMatched v_limit v_lost v_above v_fits v_goodWorths v_matcher_cameFrom v_matcher_columnPrices v_matcher_costs v_matcher_gaps v_matcher_isReached v_matcher_mates v_matcher_rowOf v_matcher_rowPrices v_places v_row v_sizes v_worths) := by
  subst t_N
  subst t_v_grain
  subst t_v_isMatched
  subst t_v_limit
  subst t_v_lost
  subst t_v_above
  subst t_v_fits
  subst t_v_goodWorths
  subst t_v_matcher_cameFrom
  subst t_v_matcher_columnPrices
  subst t_v_matcher_costs
  subst t_v_matcher_gaps
  subst t_v_matcher_isReached
  subst t_v_matcher_mates
  subst t_v_matcher_rowOf
  subst t_v_matcher_rowPrices
  subst t_v_places
  subst t_v_row
  subst t_v_sizes
  subst t_v_worths
  unfold iChest_fitMatched pChest_fitMatched
  refine tl_bd13 (t_pChest_matchAll (Eq.refl N) (Eq.refl (mI v_grain)) (Eq.refl (mI v_isMatched)) (Eq.refl (mI v_limit)) (Eq.refl (mI v_lost)) (Eq.refl (mA v_above)) (Eq.refl (mA v_fits)) (Eq.refl (mA v_goodWorths)) (Eq.refl (mA v_matcher_cameFrom)) (Eq.refl (mL v_matcher_columnPrices)) (Eq.refl (mLL v_matcher_costs)) (Eq.refl (mL v_matcher_gaps)) (Eq.refl (mA v_matcher_isReached)) (Eq.refl (mA v_matcher_mates)) (Eq.refl (mA v_matcher_rowOf)) (Eq.refl (mL v_matcher_rowPrices)) (Eq.refl (mA v_places)) (Eq.refl (mA v_row)) (Eq.refl (mA v_sizes)) (Eq.refl (mA v_worths))) (fun v_isMatched_c1 v_above_c1 v_fits_c1 v_goodWorths_c1 v_matcher_cameFrom_c1 v_matcher_columnPrices_c1 v_matcher_costs_c1 v_matcher_gaps_c1 v_matcher_isReached_c1 v_matcher_mates_c1 v_matcher_rowOf_c1 v_matcher_rowPrices_c1 v_row_c1 => ?_)
  exact (t_pChest_fitMatched_b8 (Eq.refl N) (Eq.refl (mI v_grain)) (Eq.refl (mI v_limit)) (Eq.refl (mI v_lost)) (Eq.refl (mA v_places)) (Eq.refl (mA v_sizes)) (Eq.refl (mA v_worths)) (Eq.refl (mI v_isMatched_c1)) (Eq.refl (mA v_goodWorths_c1)) (Eq.refl (mA v_matcher_cameFrom_c1)) (Eq.refl (mL v_matcher_columnPrices_c1)) (Eq.refl (mLL v_matcher_costs_c1)) (Eq.refl (mL v_matcher_gaps_c1)) (Eq.refl (mA v_matcher_isReached_c1)) (Eq.refl (mA v_matcher_mates_c1)) (Eq.refl (mA v_matcher_rowOf_c1)) (Eq.refl (mL v_matcher_rowPrices_c1)) (Eq.refl N) jlitI_0 jlitI_0 (Eq.refl (mA v_above_c1)) (Eq.refl (mA v_fits_c1)) (Eq.refl (mA v_row_c1)))
theorem t_pChest_changeCount {v_changes : Int32} {v_changes_j : Int} (t_v_changes : mI v_changes = v_changes_j) : tl (mI) (iChest_changeCount v_changes_j) (pChest_changeCount v_changes) := by
  subst t_v_changes
  unfold iChest_changeCount pChest_changeCount
  exact (tl_some (Eq.refl (mI v_changes)))
theorem t_pChest_goodWorth {a1 : Int32} {a1_j : Int} (t_a1 : mI a1 = a1_j) {v_goodWorths : (Nat → Int32)} {v_goodWorths_j : (Nat → Int)} (t_v_goodWorths : mA v_goodWorths = v_goodWorths_j) : tl (mI) (iChest_goodWorth a1_j v_goodWorths_j) (pChest_goodWorth a1 v_goodWorths) := by
  subst t_a1
  subst t_v_goodWorths
  unfold iChest_goodWorth pChest_goodWorth
  refine tl_bd1 (t_pK_isStick (Eq.refl (mI a1))) (fun rc1 => ?_)
  refine tl_ite (jc_eq (Eq.refl (mI rc1)) jlitI_0) ?_ ?_
  · exact (tl_some jlitI_0)
  · refine tl_gd (jg_ib (Eq.refl (mI a1))) (fun _ => ?_)
    exact (tl_some (jrd (Eq.refl (mA v_goodWorths)) (jx (Eq.refl (mI a1)))))
theorem t_pChest_halvesFrom_b4_F {N N_j : Nat} (t_N : N = N_j) {a1 : Int32} {a1_j : Int} (t_a1 : mI a1 = a1_j) {v_sizes : (Nat → Int32)} {v_sizes_j : (Nat → Int)} (t_v_sizes : mA v_sizes = v_sizes_j) {self : Int32 → Int32 → Option R_pChest_halvesFrom} {self_j : Int → Int → Option Int} (t_self : ∀ (q0_ : Int32) (q1_ : Int32), tl (mI) (self_j (mI q0_) (mI q1_)) (self q0_ q1_)) {x2 : Int32} {x2_j : Int} (t_x2 : mI x2 = x2_j) {x3 : Int32} {x3_j : Int} (t_x3 : mI x3 = x3_j) : tl (mI) (iChest_halvesFrom_b4_F N_j a1_j v_sizes_j self_j x2_j x3_j) (pChest_halvesFrom_b4_F N a1 v_sizes self x2 x3) := by
  subst t_N
  subst t_a1
  subst t_v_sizes
  subst t_x2
  subst t_x3
  unfold iChest_halvesFrom_b4_F pChest_halvesFrom_b4_F
  refine tl_g (fun h1 => ?_)
  refine tl_ite (jc_le (ja_add (Eq.refl (mI a1)) jlitI_10 h1) (Eq.refl (mI x3))) ?_ ?_
  · exact (tl_some (Eq.refl (mI x2)))
  · refine tl_bd1 (t_pChest_isThere (Eq.refl (mI x3)) (Eq.refl (mA v_sizes))) (fun rc1 => ?_)
    refine tl_ite (jc_eq (Eq.refl (mI rc1)) jlitI_0) ?_ ?_
    · refine tl_g (fun h2 => ?_)
      refine tl_g (fun h3 => ?_)
      exact (tl_e2 (ja_add (Eq.refl (mI x2)) jlitI_0 h2) (ja_add (Eq.refl (mI x3)) jlitI_1 h3) (t_self _ _))
    · refine tl_g (fun h4 => ?_)
      refine tl_g (fun h5 => ?_)
      exact (tl_e2 (ja_add (Eq.refl (mI x2)) jlitI_1 h4) (ja_add (Eq.refl (mI x3)) jlitI_1 h5) (t_self _ _))
theorem t_pChest_halvesFrom_b4 {N N_j : Nat} (t_N : N = N_j) {a1 : Int32} {a1_j : Int} (t_a1 : mI a1 = a1_j) {v_sizes : (Nat → Int32)} {v_sizes_j : (Nat → Int)} (t_v_sizes : mA v_sizes = v_sizes_j) {n n_j : Nat} (t_n : n = n_j) {w0_ : Int32} {w0__j : Int} (t_w0_ : mI w0_ = w0__j) {w1_ : Int32} {w1__j : Int} (t_w1_ : mI w1_ = w1__j) : tl (mI) (iChest_halvesFrom_b4 N_j a1_j v_sizes_j n_j w0__j w1__j) (pChest_halvesFrom_b4 N a1 v_sizes n w0_ w1_) := by
  subst t_N
  subst t_a1
  subst t_v_sizes
  subst t_n
  subst t_w0_
  subst t_w1_
  exact tl_zlp2 (fun s2 s hs w0_ w1_ => t_pChest_halvesFrom_b4_F (Eq.refl N) (Eq.refl (mI a1)) (Eq.refl (mA v_sizes)) hs (Eq.refl (mI w0_)) (Eq.refl (mI w1_))) n w0_ w1_
theorem t_pChest_halvesFrom {N N_j : Nat} (t_N : N = N_j) {a1 : Int32} {a1_j : Int} (t_a1 : mI a1 = a1_j) {v_sizes : (Nat → Int32)} {v_sizes_j : (Nat → Int)} (t_v_sizes : mA v_sizes = v_sizes_j) : tl (mI) (iChest_halvesFrom N_j a1_j v_sizes_j) (pChest_halvesFrom N a1 v_sizes) := by
  subst t_N
  subst t_a1
  subst t_v_sizes
  unfold iChest_halvesFrom pChest_halvesFrom
  exact (t_pChest_halvesFrom_b4 (Eq.refl N) (Eq.refl (mI a1)) (Eq.refl (mA v_sizes)) (Eq.refl N) jlitI_0 (Eq.refl (mI a1)))
theorem t_pStatement_init {t0 t0_j : Nat} (t_t0 : t0 = t0_j) : tl (mO) (iStatement_init t0_j) (pStatement_init t0) := by
  subst t_t0
  unfold iStatement_init pStatement_init
  exact (tl_some rfl)
theorem t_pWrit_init {t0 t0_j : Nat} (t_t0 : t0 = t0_j) {a2 : Int32} {a2_j : Int} (t_a2 : mI a2 = a2_j) {a4 : Int32} {a4_j : Int} (t_a4 : mI a4 = a4_j) {v_a1 : (Nat → Option Nat)} {v_a1_j : (Nat → Option Nat)} (t_v_a1 : mO v_a1 = v_a1_j) {v_a3 : (Nat → Int32)} {v_a3_j : (Nat → Int)} (t_v_a3 : mA v_a3 = v_a3_j) {v_D : Dyn} {v_D_j : DynI} (t_v_D : mD v_D = v_D_j) : tl (mD) (iWrit_init t0_j a2_j a4_j v_a1_j v_a3_j v_D_j) (pWrit_init t0 a2 a4 v_a1 v_a3 v_D) := by
  subst t_t0
  subst t_a2
  subst t_a4
  subst t_v_a1
  subst t_v_a3
  subst t_v_D
  unfold iWrit_init pWrit_init
  refine tl_gd (jg_ib (Eq.refl (mI a2))) (fun _ => ?_)
  refine tl_bd1 (tl_some (T := mO) (Eq.refl _)) (fun y1 => ?_)
  refine tl_bd1 (jt_PR (jd_NewA (Eq.refl (mD v_D)) (jx (Eq.refl (mI a2)))) (congrArg some (Eq.refl y1))) (fun v_D3 => ?_)
  refine tl_bd1 (jt_GR (Eq.refl (mD v_D3))) (fun d4 => ?_)
  refine tl_bd1 tl_rfl (fun y5 => ?_)
  refine tl_bd1 (jt_Copy (Eq.refl (mD v_D3)) (Eq.refl (mO v_a1)) jlitI_0 jlitI_0 (Eq.refl (mI a2))) (fun v_D6 => ?_)
  refine tl_gd (jg_ib (Eq.refl (mI a4))) (fun _ => ?_)
  refine tl_bd1 (tl_some (T := mO) (Eq.refl _)) (fun y7 => ?_)
  refine tl_bd1 (jt_PR (jd_NewI (Eq.refl (mD v_D6)) (jx (Eq.refl (mI a4))) (Eq.refl (mA v_a3))) (congrArg some (Eq.refl y7))) (fun v_D9 => ?_)
  exact (tl_some (Eq.refl (mD v_D9)))
