set_option maxHeartbeats 4000000
set_option maxRecDepth 100000
theorem t_pM_isIn {a0 : Int64} {a0_j : Int} (t_a0 : mJ a0 = a0_j) {a2 : Int64} {a2_j : Int} (t_a2 : mJ a2 = a2_j) {a4 : Int64} {a4_j : Int} (t_a4 : mJ a4 = a4_j) : tl (mI) (iM_isIn a0_j a2_j a4_j) (pM_isIn a0 a2 a4) := by
  subst t_a0
  subst t_a2
  subst t_a4
  unfold iM_isIn pM_isIn
  refine tl_ite (jk_lt (Eq.refl (mJ a0)) (Eq.refl (mJ a2))) ?_ ?_
  · exact (tl_some jlitI_0)
  · refine tl_ite (jk_gt (Eq.refl (mJ a0)) (Eq.refl (mJ a4))) ?_ ?_
    · exact (tl_some jlitI_0)
    · exact (tl_some jlitI_1)
theorem t_pM_value_b5_F {N N_j : Nat} (t_N : N = N_j) {a1 : Int32} {a1_j : Int} (t_a1 : mI a1 = a1_j) {v_ratio : (Nat → Int32)} {v_ratio_j : (Nat → Int)} (t_v_ratio : mA v_ratio = v_ratio_j) {self : Int64 → Int32 → Option R_pM_value} {self_j : Int → Int → Option Int} (t_self : ∀ (q0_ : Int64) (q1_ : Int32), tl (mJ) (self_j (mJ q0_) (mI q1_)) (self q0_ q1_)) {x2 : Int64} {x2_j : Int} (t_x2 : mJ x2 = x2_j) {x4 : Int32} {x4_j : Int} (t_x4 : mI x4 = x4_j) : tl (mJ) (iM_value_b5_F N_j a1_j v_ratio_j self_j x2_j x4_j) (pM_value_b5_F N a1 v_ratio self x2 x4) := by
  subst t_N
  subst t_a1
  subst t_v_ratio
  subst t_x2
  subst t_x4
  unfold iM_value_b5_F pM_value_b5_F
  refine tl_ite (jc_le (Eq.refl (mI a1)) (Eq.refl (mI x4))) ?_ ?_
  · exact (tl_some (Eq.refl (mJ x2)))
  · refine tl_gd (jg_ib (Eq.refl (mI x4))) (fun _ => ?_)
    refine tl_g (fun h1 => ?_)
    refine tl_g (fun h2 => ?_)
    exact (tl_e2 (jL_mul (Eq.refl (mJ x2)) (ja_i2l (jrd (Eq.refl (mA v_ratio)) (jx (Eq.refl (mI x4))))) h1) (ja_add (Eq.refl (mI x4)) jlitI_1 h2) (t_self _ _))
theorem t_pM_value_b5 {N N_j : Nat} (t_N : N = N_j) {a1 : Int32} {a1_j : Int} (t_a1 : mI a1 = a1_j) {v_ratio : (Nat → Int32)} {v_ratio_j : (Nat → Int)} (t_v_ratio : mA v_ratio = v_ratio_j) {n n_j : Nat} (t_n : n = n_j) {w0_ : Int64} {w0__j : Int} (t_w0_ : mJ w0_ = w0__j) {w1_ : Int32} {w1__j : Int} (t_w1_ : mI w1_ = w1__j) : tl (mJ) (iM_value_b5 N_j a1_j v_ratio_j n_j w0__j w1__j) (pM_value_b5 N a1 v_ratio n w0_ w1_) := by
  subst t_N
  subst t_a1
  subst t_v_ratio
  subst t_n
  subst t_w0_
  subst t_w1_
  exact tl_zlp2 (fun s2 s hs w0_ w1_ => t_pM_value_b5_F (Eq.refl N) (Eq.refl (mI a1)) (Eq.refl (mA v_ratio)) hs (Eq.refl (mJ w0_)) (Eq.refl (mI w1_))) n w0_ w1_
theorem t_pM_value {N N_j : Nat} (t_N : N = N_j) {a1 : Int32} {a1_j : Int} (t_a1 : mI a1 = a1_j) {v_ratio : (Nat → Int32)} {v_ratio_j : (Nat → Int)} (t_v_ratio : mA v_ratio = v_ratio_j) : tl (mJ) (iM_value N_j a1_j v_ratio_j) (pM_value N a1 v_ratio) := by
  subst t_N
  subst t_a1
  subst t_v_ratio
  unfold iM_value pM_value
  exact (t_pM_value_b5 (Eq.refl N) (Eq.refl (mI a1)) (Eq.refl (mA v_ratio)) (Eq.refl N) jlitJ_1 jlitI_0)
theorem t_pM_plains_b7_F {N N_j : Nat} (t_N : N = N_j) {a1 : Int32} {a1_j : Int} (t_a1 : mI a1 = a1_j) {v_ratio : (Nat → Int32)} {v_ratio_j : (Nat → Int)} (t_v_ratio : mA v_ratio = v_ratio_j) {self : Int64 → Int32 → (Nat → Int32) → Option R_pM_plains} {self_j : Int → Int → (Nat → Int) → Option (Nat → Int)} (t_self : ∀ (q0_ : Int64) (q1_ : Int32) (q2_ : (Nat → Int32)), tl (mA) (self_j (mJ q0_) (mI q1_) (mA q2_)) (self q0_ q1_ q2_)) {x2 : Int64} {x2_j : Int} (t_x2 : mJ x2 = x2_j) {x4 : Int32} {x4_j : Int} (t_x4 : mI x4 = x4_j) {v_plain : (Nat → Int32)} {v_plain_j : (Nat → Int)} (t_v_plain : mA v_plain = v_plain_j) : tl (mA) (iM_plains_b7_F N_j a1_j v_ratio_j self_j x2_j x4_j v_plain_j) (pM_plains_b7_F N a1 v_ratio self x2 x4 v_plain) := by
  subst t_N
  subst t_a1
  subst t_v_ratio
  subst t_x2
  subst t_x4
  subst t_v_plain
  unfold iM_plains_b7_F pM_plains_b7_F
  refine tl_ite (jc_lt (Eq.refl (mI x4)) jlitI_0) ?_ ?_
  · exact (tl_some (Eq.refl (mA v_plain)))
  · refine tl_bd1 (t_pM_value (Eq.refl N) (Eq.refl (mI x4)) (Eq.refl (mA v_ratio))) (fun rc1 => ?_)
    refine tl_gd (jg_nL (Eq.refl (mJ rc1))) (fun _ => ?_)
    refine tl_gd (jg_ib (Eq.refl (mI x4))) (fun _ => ?_)
    refine tl_bd1 (t_pM_value (Eq.refl N) (Eq.refl (mI x4)) (Eq.refl (mA v_ratio))) (fun rc4 => ?_)
    refine tl_gd (jg_nL (Eq.refl (mJ rc4))) (fun _ => ?_)
    refine tl_g (fun h1 => ?_)
    refine tl_g (fun h2 => ?_)
    refine tl_g (fun h3 => ?_)
    exact (tl_e3 (jL_rem (Eq.refl (mJ x2)) (Eq.refl (mJ rc4))) (ja_add (Eq.refl (mI x4)) jlitI_m1 h1) (jupA (Eq.refl (mA v_plain)) (jx (Eq.refl (mI x4))) (ja_l2i (jL_div (Eq.refl (mJ x2)) (Eq.refl (mJ rc1)) h2) h3)) (t_self _ _ _))
theorem t_pM_plains_b7 {N N_j : Nat} (t_N : N = N_j) {a1 : Int32} {a1_j : Int} (t_a1 : mI a1 = a1_j) {v_ratio : (Nat → Int32)} {v_ratio_j : (Nat → Int)} (t_v_ratio : mA v_ratio = v_ratio_j) {n n_j : Nat} (t_n : n = n_j) {w0_ : Int64} {w0__j : Int} (t_w0_ : mJ w0_ = w0__j) {w1_ : Int32} {w1__j : Int} (t_w1_ : mI w1_ = w1__j) {w2_ : (Nat → Int32)} {w2__j : (Nat → Int)} (t_w2_ : mA w2_ = w2__j) : tl (mA) (iM_plains_b7 N_j a1_j v_ratio_j n_j w0__j w1__j w2__j) (pM_plains_b7 N a1 v_ratio n w0_ w1_ w2_) := by
  subst t_N
  subst t_a1
  subst t_v_ratio
  subst t_n
  subst t_w0_
  subst t_w1_
  subst t_w2_
  exact tl_zlp3 (fun s2 s hs w0_ w1_ w2_ => t_pM_plains_b7_F (Eq.refl N) (Eq.refl (mI a1)) (Eq.refl (mA v_ratio)) hs (Eq.refl (mJ w0_)) (Eq.refl (mI w1_)) (Eq.refl (mA w2_))) n w0_ w1_ w2_
theorem t_pM_plains {N N_j : Nat} (t_N : N = N_j) {a1 : Int32} {a1_j : Int} (t_a1 : mI a1 = a1_j) {v_plain : (Nat → Int32)} {v_plain_j : (Nat → Int)} (t_v_plain : mA v_plain = v_plain_j) {v_ratio : (Nat → Int32)} {v_ratio_j : (Nat → Int)} (t_v_ratio : mA v_ratio = v_ratio_j) : tl (mA) (iM_plains N_j a1_j v_plain_j v_ratio_j) (pM_plains N a1 v_plain v_ratio) := by
  subst t_N
  subst t_a1
  subst t_v_plain
  subst t_v_ratio
  unfold iM_plains pM_plains
  exact (t_pM_plains_b7 (Eq.refl N) (Eq.refl (mI a1)) (Eq.refl (mA v_ratio)) (Eq.refl N) (ja_i2l (Eq.refl (mI a1))) jlitI_12 (Eq.refl (mA v_plain)))
theorem t_pM_put {a1 : Int32} {a1_j : Int} (t_a1 : mI a1 = a1_j) {a2 : Int32} {a2_j : Int} (t_a2 : mI a2 = a2_j) {v_lie : (Nat → Int32)} {v_lie_j : (Nat → Int)} (t_v_lie : mA v_lie = v_lie_j) : tl (mP mI mA) (iM_put a1_j a2_j v_lie_j) (pM_put a1 a2 v_lie) := by
  subst t_a1
  subst t_a2
  subst t_v_lie
  unfold iM_put pM_put
  refine tl_bd1 (t_pM_isIn (ja_i2l (Eq.refl (mI a1))) jlitJ_0 jlitJ_12) (fun rc1 => ?_)
  refine tl_ite (jc_eq (Eq.refl (mI rc1)) jlitI_0) ?_ ?_
  · exact (tl_some (jp2 jlitI_0 (Eq.refl (mA v_lie))))
  · refine tl_bd1 (t_pM_isIn (ja_i2l (Eq.refl (mI a2))) jlitJ_0 jlitJ_99) (fun rc2 => ?_)
    refine tl_ite (jc_eq (Eq.refl (mI rc2)) jlitI_0) ?_ ?_
    · exact (tl_some (jp2 jlitI_0 (Eq.refl (mA v_lie))))
    · refine tl_gd (jg_ib (Eq.refl (mI a1))) (fun _ => ?_)
      exact (tl_some (jp2 jlitI_1 (jupA (Eq.refl (mA v_lie)) (jx (Eq.refl (mI a1))) (Eq.refl (mI a2)))))
theorem t_pM_lies {a1 : Int32} {a1_j : Int} (t_a1 : mI a1 = a1_j) {v_lie : (Nat → Int32)} {v_lie_j : (Nat → Int)} (t_v_lie : mA v_lie = v_lie_j) : tl (mI) (iM_lies a1_j v_lie_j) (pM_lies a1 v_lie) := by
  subst t_a1
  subst t_v_lie
  unfold iM_lies pM_lies
  refine tl_bd1 (t_pM_isIn (ja_i2l (Eq.refl (mI a1))) jlitJ_0 jlitJ_12) (fun rc1 => ?_)
  refine tl_ite (jc_eq (Eq.refl (mI rc1)) jlitI_0) ?_ ?_
  · exact (tl_some jlitI_m1)
  · refine tl_gd (jg_ib (Eq.refl (mI a1))) (fun _ => ?_)
    exact (tl_some (jrd (Eq.refl (mA v_lie)) (jx (Eq.refl (mI a1)))))
theorem t_pM_worth_b4_F {N N_j : Nat} (t_N : N = N_j) {v_lie : (Nat → Int32)} {v_lie_j : (Nat → Int)} (t_v_lie : mA v_lie = v_lie_j) {v_ratio : (Nat → Int32)} {v_ratio_j : (Nat → Int)} (t_v_ratio : mA v_ratio = v_ratio_j) {self : Int64 → Int32 → Option R_pM_worth} {self_j : Int → Int → Option Int} (t_self : ∀ (q0_ : Int64) (q1_ : Int32), tl (mJ) (self_j (mJ q0_) (mI q1_)) (self q0_ q1_)) {x1 : Int64} {x1_j : Int} (t_x1 : mJ x1 = x1_j) {x3 : Int32} {x3_j : Int} (t_x3 : mI x3 = x3_j) : tl (mJ) (iM_worth_b4_F N_j v_lie_j v_ratio_j self_j x1_j x3_j) (pM_worth_b4_F N v_lie v_ratio self x1 x3) := by
  subst t_N
  subst t_v_lie
  subst t_v_ratio
  subst t_x1
  subst t_x3
  unfold iM_worth_b4_F pM_worth_b4_F
  refine tl_ite (jc_le jlitI_13 (Eq.refl (mI x3))) ?_ ?_
  · exact (tl_some (Eq.refl (mJ x1)))
  · refine tl_gd (jg_ib (Eq.refl (mI x3))) (fun _ => ?_)
    refine tl_bd1 (t_pM_value (Eq.refl N) (Eq.refl (mI x3)) (Eq.refl (mA v_ratio))) (fun rc2 => ?_)
    refine tl_g (fun h1 => ?_)
    refine tl_g (fun h2 => ?_)
    refine tl_g (fun h3 => ?_)
    exact (tl_e2 (jL_add (Eq.refl (mJ x1)) (jL_mul (ja_i2l (jrd (Eq.refl (mA v_lie)) (jx (Eq.refl (mI x3))))) (Eq.refl (mJ rc2)) h1) h2) (ja_add (Eq.refl (mI x3)) jlitI_1 h3) (t_self _ _))
theorem t_pM_worth_b4 {N N_j : Nat} (t_N : N = N_j) {v_lie : (Nat → Int32)} {v_lie_j : (Nat → Int)} (t_v_lie : mA v_lie = v_lie_j) {v_ratio : (Nat → Int32)} {v_ratio_j : (Nat → Int)} (t_v_ratio : mA v_ratio = v_ratio_j) {n n_j : Nat} (t_n : n = n_j) {w0_ : Int64} {w0__j : Int} (t_w0_ : mJ w0_ = w0__j) {w1_ : Int32} {w1__j : Int} (t_w1_ : mI w1_ = w1__j) : tl (mJ) (iM_worth_b4 N_j v_lie_j v_ratio_j n_j w0__j w1__j) (pM_worth_b4 N v_lie v_ratio n w0_ w1_) := by
  subst t_N
  subst t_v_lie
  subst t_v_ratio
  subst t_n
  subst t_w0_
  subst t_w1_
  exact tl_zlp2 (fun s2 s hs w0_ w1_ => t_pM_worth_b4_F (Eq.refl N) (Eq.refl (mA v_lie)) (Eq.refl (mA v_ratio)) hs (Eq.refl (mJ w0_)) (Eq.refl (mI w1_))) n w0_ w1_
theorem t_pM_worth {N N_j : Nat} (t_N : N = N_j) {v_lie : (Nat → Int32)} {v_lie_j : (Nat → Int)} (t_v_lie : mA v_lie = v_lie_j) {v_ratio : (Nat → Int32)} {v_ratio_j : (Nat → Int)} (t_v_ratio : mA v_ratio = v_ratio_j) : tl (mJ) (iM_worth N_j v_lie_j v_ratio_j) (pM_worth N v_lie v_ratio) := by
  subst t_N
  subst t_v_lie
  subst t_v_ratio
  unfold iM_worth pM_worth
  exact (t_pM_worth_b4 (Eq.refl N) (Eq.refl (mA v_lie)) (Eq.refl (mA v_ratio)) (Eq.refl N) jlitJ_0 jlitI_0)
theorem t_pM_plain {N N_j : Nat} (t_N : N = N_j) {a1 : Int32} {a1_j : Int} (t_a1 : mI a1 = a1_j) {a2 : Int32} {a2_j : Int} (t_a2 : mI a2 = a2_j) {v_plain : (Nat → Int32)} {v_plain_j : (Nat → Int)} (t_v_plain : mA v_plain = v_plain_j) {v_ratio : (Nat → Int32)} {v_ratio_j : (Nat → Int)} (t_v_ratio : mA v_ratio = v_ratio_j) : tl (mP mI mA) (iM_plain N_j a1_j a2_j v_plain_j v_ratio_j) (pM_plain N a1 a2 v_plain v_ratio) := by
  subst t_N
  subst t_a1
  subst t_a2
  subst t_v_plain
  subst t_v_ratio
  unfold iM_plain pM_plain
  refine tl_bd1 (t_pM_isIn (ja_i2l (Eq.refl (mI a1))) jlitJ_0 jlitJ_1000000000) (fun rc1 => ?_)
  refine tl_ite (jc_eq (Eq.refl (mI rc1)) jlitI_0) ?_ ?_
  · exact (tl_some (jp2 jlitI_m1 (Eq.refl (mA v_plain))))
  · refine tl_bd1 (t_pM_isIn (ja_i2l (Eq.refl (mI a2))) jlitJ_0 jlitJ_12) (fun rc2 => ?_)
    refine tl_ite (jc_eq (Eq.refl (mI rc2)) jlitI_0) ?_ ?_
    · exact (tl_some (jp2 jlitI_m1 (Eq.refl (mA v_plain))))
    · refine tl_bd1 (t_pM_plains (Eq.refl N) (Eq.refl (mI a1)) (Eq.refl (mA v_plain)) (Eq.refl (mA v_ratio))) (fun v_plain_c3 => ?_)
      refine tl_gd (jg_ib (Eq.refl (mI a2))) (fun _ => ?_)
      exact (tl_some (jp2 (jrd (Eq.refl (mA v_plain_c3)) (jx (Eq.refl (mI a2)))) (Eq.refl (mA v_plain_c3))))
theorem t_pM_works_b2_F {N N_j : Nat} (t_N : N = N_j) {v_lie : (Nat → Int32)} {v_lie_j : (Nat → Int)} (t_v_lie : mA v_lie = v_lie_j) {self : Int32 → (Nat → Int32) → Option R_pM_works} {self_j : Int → (Nat → Int) → Option (Nat → Int)} (t_self : ∀ (q0_ : Int32) (q1_ : (Nat → Int32)), tl (mA) (self_j (mI q0_) (mA q1_)) (self q0_ q1_)) {x1 : Int32} {x1_j : Int} (t_x1 : mI x1 = x1_j) {v_work : (Nat → Int32)} {v_work_j : (Nat → Int)} (t_v_work : mA v_work = v_work_j) : tl (mA) (iM_works_b2_F N_j v_lie_j self_j x1_j v_work_j) (pM_works_b2_F N v_lie self x1 v_work) := by
  subst t_N
  subst t_v_lie
  subst t_x1
  subst t_v_work
  unfold iM_works_b2_F pM_works_b2_F
  refine tl_ite (jc_le jlitI_13 (Eq.refl (mI x1))) ?_ ?_
  · exact (tl_some (Eq.refl (mA v_work)))
  · refine tl_gd (jg_ib (Eq.refl (mI x1))) (fun _ => ?_)
    refine tl_g (fun h1 => ?_)
    exact (tl_e2 (ja_add (Eq.refl (mI x1)) jlitI_1 h1) (jupA (Eq.refl (mA v_work)) (jx (Eq.refl (mI x1))) (jrd (Eq.refl (mA v_lie)) (jx (Eq.refl (mI x1))))) (t_self _ _))
theorem t_pM_works_b2 {N N_j : Nat} (t_N : N = N_j) {v_lie : (Nat → Int32)} {v_lie_j : (Nat → Int)} (t_v_lie : mA v_lie = v_lie_j) {n n_j : Nat} (t_n : n = n_j) {w0_ : Int32} {w0__j : Int} (t_w0_ : mI w0_ = w0__j) {w1_ : (Nat → Int32)} {w1__j : (Nat → Int)} (t_w1_ : mA w1_ = w1__j) : tl (mA) (iM_works_b2 N_j v_lie_j n_j w0__j w1__j) (pM_works_b2 N v_lie n w0_ w1_) := by
  subst t_N
  subst t_v_lie
  subst t_n
  subst t_w0_
  subst t_w1_
  exact tl_zlp2 (fun s2 s hs w0_ w1_ => t_pM_works_b2_F (Eq.refl N) (Eq.refl (mA v_lie)) hs (Eq.refl (mI w0_)) (Eq.refl (mA w1_))) n w0_ w1_
theorem t_pM_works {N N_j : Nat} (t_N : N = N_j) {v_lie : (Nat → Int32)} {v_lie_j : (Nat → Int)} (t_v_lie : mA v_lie = v_lie_j) {v_work : (Nat → Int32)} {v_work_j : (Nat → Int)} (t_v_work : mA v_work = v_work_j) : tl (mA) (iM_works N_j v_lie_j v_work_j) (pM_works N v_lie v_work) := by
  subst t_N
  subst t_v_lie
  subst t_v_work
  unfold iM_works pM_works
  exact (t_pM_works_b2 (Eq.refl N) (Eq.refl (mA v_lie)) (Eq.refl N) jlitI_0 (Eq.refl (mA v_work)))
theorem t_pM_stays_b2_F {N N_j : Nat} (t_N : N = N_j) {v_work : (Nat → Int32)} {v_work_j : (Nat → Int)} (t_v_work : mA v_work = v_work_j) {self : Int32 → (Nat → Int32) → Option R_pM_stays} {self_j : Int → (Nat → Int) → Option (Nat → Int)} (t_self : ∀ (q0_ : Int32) (q1_ : (Nat → Int32)), tl (mA) (self_j (mI q0_) (mA q1_)) (self q0_ q1_)) {x1 : Int32} {x1_j : Int} (t_x1 : mI x1 = x1_j) {v_lie : (Nat → Int32)} {v_lie_j : (Nat → Int)} (t_v_lie : mA v_lie = v_lie_j) : tl (mA) (iM_stays_b2_F N_j v_work_j self_j x1_j v_lie_j) (pM_stays_b2_F N v_work self x1 v_lie) := by
  subst t_N
  subst t_v_work
  subst t_x1
  subst t_v_lie
  unfold iM_stays_b2_F pM_stays_b2_F
  refine tl_ite (jc_le jlitI_13 (Eq.refl (mI x1))) ?_ ?_
  · exact (tl_some (Eq.refl (mA v_lie)))
  · refine tl_gd (jg_ib (Eq.refl (mI x1))) (fun _ => ?_)
    refine tl_g (fun h1 => ?_)
    exact (tl_e2 (ja_add (Eq.refl (mI x1)) jlitI_1 h1) (jupA (Eq.refl (mA v_lie)) (jx (Eq.refl (mI x1))) (jrd (Eq.refl (mA v_work)) (jx (Eq.refl (mI x1))))) (t_self _ _))
theorem t_pM_stays_b2 {N N_j : Nat} (t_N : N = N_j) {v_work : (Nat → Int32)} {v_work_j : (Nat → Int)} (t_v_work : mA v_work = v_work_j) {n n_j : Nat} (t_n : n = n_j) {w0_ : Int32} {w0__j : Int} (t_w0_ : mI w0_ = w0__j) {w1_ : (Nat → Int32)} {w1__j : (Nat → Int)} (t_w1_ : mA w1_ = w1__j) : tl (mA) (iM_stays_b2 N_j v_work_j n_j w0__j w1__j) (pM_stays_b2 N v_work n w0_ w1_) := by
  subst t_N
  subst t_v_work
  subst t_n
  subst t_w0_
  subst t_w1_
  exact tl_zlp2 (fun s2 s hs w0_ w1_ => t_pM_stays_b2_F (Eq.refl N) (Eq.refl (mA v_work)) hs (Eq.refl (mI w0_)) (Eq.refl (mA w1_))) n w0_ w1_
theorem t_pM_stays {N N_j : Nat} (t_N : N = N_j) {v_lie : (Nat → Int32)} {v_lie_j : (Nat → Int)} (t_v_lie : mA v_lie = v_lie_j) {v_work : (Nat → Int32)} {v_work_j : (Nat → Int)} (t_v_work : mA v_work = v_work_j) : tl (mA) (iM_stays N_j v_lie_j v_work_j) (pM_stays N v_lie v_work) := by
  subst t_N
  subst t_v_lie
  subst t_v_work
  unfold iM_stays pM_stays
  exact (t_pM_stays_b2 (Eq.refl N) (Eq.refl (mA v_work)) (Eq.refl N) jlitI_0 (Eq.refl (mA v_lie)))
theorem t_pM_lay_b25_F {N N_j : Nat} (t_N : N = N_j) {a1 : Int32} {a1_j : Int} (t_a1 : mI a1 = a1_j) {v_ratio : (Nat → Int32)} {v_ratio_j : (Nat → Int)} (t_v_ratio : mA v_ratio = v_ratio_j) {v_lie : (Nat → Int32)} {v_lie_j : (Nat → Int)} (t_v_lie : mA v_lie = v_lie_j) {v_plain : (Nat → Int32)} {v_plain_j : (Nat → Int)} (t_v_plain : mA v_plain = v_plain_j) {k65 : (Nat → Int32) → Option R_pM_lay} {k65_j : (Nat → Int) → Option R_iM_lay} (t_k65 : ∀ (q0_ : (Nat → Int32)), tl (mP mI (mP mA (mP mA mA))) (k65_j (mA q0_)) (k65 q0_)) {self : Int32 → (Nat → Int32) → Option R_pM_lay} {self_j : Int → (Nat → Int) → Option R_iM_lay} (t_self : ∀ (q0_ : Int32) (q1_ : (Nat → Int32)), tl (mP mI (mP mA (mP mA mA))) (self_j (mI q0_) (mA q1_)) (self q0_ q1_)) {x2 : Int32} {x2_j : Int} (t_x2 : mI x2 = x2_j) {v_work : (Nat → Int32)} {v_work_j : (Nat → Int)} (t_v_work : mA v_work = v_work_j) : tl (mP mI (mP mA (mP mA mA))) (iM_lay_b25_F N_j a1_j v_ratio_j v_lie_j v_plain_j k65_j self_j x2_j v_work_j) (pM_lay_b25_F N a1 v_ratio v_lie v_plain k65 self x2 v_work) := by
  subst t_N
  subst t_a1
  subst t_v_ratio
  subst t_v_lie
  subst t_v_plain
  subst t_x2
  subst t_v_work
  unfold iM_lay_b25_F pM_lay_b25_F
  refine tl_ite (jc_le jlitI_13 (Eq.refl (mI x2))) ?_ ?_
  · exact (tl_e1 (Eq.refl (mA v_work)) (t_k65 _))
  · refine tl_gd (jg_ib (Eq.refl (mI x2))) (fun _ => ?_)
    refine tl_g (fun h1 => ?_)
    refine tl_ite (jc_le (jrd (jupA (Eq.refl (mA v_work)) (jx (Eq.refl (mI x2))) (ja_add (jrd (Eq.refl (mA v_work)) (jx (Eq.refl (mI x2)))) (jrd (Eq.refl (mA v_plain)) (jx (Eq.refl (mI x2)))) h1)) (jx (Eq.refl (mI x2)))) jlitI_99) ?_ ?_
    · refine tl_g (fun h2 => ?_)
      exact (tl_e2 (ja_add (Eq.refl (mI x2)) jlitI_1 h2) (jupA (Eq.refl (mA v_work)) (jx (Eq.refl (mI x2))) (ja_add (jrd (Eq.refl (mA v_work)) (jx (Eq.refl (mI x2)))) (jrd (Eq.refl (mA v_plain)) (jx (Eq.refl (mI x2)))) h1)) (t_self _ _))
    · exact (tl_some (jp2 jlitI_m1 (jp2 (Eq.refl (mA v_lie)) (jp2 (Eq.refl (mA v_plain)) (jupA (Eq.refl (mA v_work)) (jx (Eq.refl (mI x2))) (ja_add (jrd (Eq.refl (mA v_work)) (jx (Eq.refl (mI x2)))) (jrd (Eq.refl (mA v_plain)) (jx (Eq.refl (mI x2)))) h1))))))
theorem t_pM_lay_b25 {N N_j : Nat} (t_N : N = N_j) {a1 : Int32} {a1_j : Int} (t_a1 : mI a1 = a1_j) {v_ratio : (Nat → Int32)} {v_ratio_j : (Nat → Int)} (t_v_ratio : mA v_ratio = v_ratio_j) {v_lie : (Nat → Int32)} {v_lie_j : (Nat → Int)} (t_v_lie : mA v_lie = v_lie_j) {v_plain : (Nat → Int32)} {v_plain_j : (Nat → Int)} (t_v_plain : mA v_plain = v_plain_j) {k65 : (Nat → Int32) → Option R_pM_lay} {k65_j : (Nat → Int) → Option R_iM_lay} (t_k65 : ∀ (q0_ : (Nat → Int32)), tl (mP mI (mP mA (mP mA mA))) (k65_j (mA q0_)) (k65 q0_)) {n n_j : Nat} (t_n : n = n_j) {w0_ : Int32} {w0__j : Int} (t_w0_ : mI w0_ = w0__j) {w1_ : (Nat → Int32)} {w1__j : (Nat → Int)} (t_w1_ : mA w1_ = w1__j) : tl (mP mI (mP mA (mP mA mA))) (iM_lay_b25 N_j a1_j v_ratio_j v_lie_j v_plain_j k65_j n_j w0__j w1__j) (pM_lay_b25 N a1 v_ratio v_lie v_plain k65 n w0_ w1_) := by
  subst t_N
  subst t_a1
  subst t_v_ratio
  subst t_v_lie
  subst t_v_plain
  subst t_n
  subst t_w0_
  subst t_w1_
  exact tl_zlp2 (fun s2 s hs w0_ w1_ => t_pM_lay_b25_F (Eq.refl N) (Eq.refl (mI a1)) (Eq.refl (mA v_ratio)) (Eq.refl (mA v_lie)) (Eq.refl (mA v_plain)) t_k65 hs (Eq.refl (mI w0_)) (Eq.refl (mA w1_))) n w0_ w1_
theorem t_pM_lay_b75_F {N N_j : Nat} (t_N : N = N_j) {a1 : Int32} {a1_j : Int} (t_a1 : mI a1 = a1_j) {v_ratio : (Nat → Int32)} {v_ratio_j : (Nat → Int)} (t_v_ratio : mA v_ratio = v_ratio_j) {x3 : Int32} {x3_j : Int} (t_x3 : mI x3 = x3_j) {v_lie : (Nat → Int32)} {v_lie_j : (Nat → Int)} (t_v_lie : mA v_lie = v_lie_j) {v_plain : (Nat → Int32)} {v_plain_j : (Nat → Int)} (t_v_plain : mA v_plain = v_plain_j) {k138 : Int32 → (Nat → Int32) → Option R_pM_lay} {k138_j : Int → (Nat → Int) → Option R_iM_lay} (t_k138 : ∀ (q0_ : Int32) (q1_ : (Nat → Int32)), tl (mP mI (mP mA (mP mA mA))) (k138_j (mI q0_) (mA q1_)) (k138 q0_ q1_)) {self : Int32 → (Nat → Int32) → Option R_pM_lay} {self_j : Int → (Nat → Int) → Option R_iM_lay} (t_self : ∀ (q0_ : Int32) (q1_ : (Nat → Int32)), tl (mP mI (mP mA (mP mA mA))) (self_j (mI q0_) (mA q1_)) (self q0_ q1_)) {x2 : Int32} {x2_j : Int} (t_x2 : mI x2 = x2_j) {v_work : (Nat → Int32)} {v_work_j : (Nat → Int)} (t_v_work : mA v_work = v_work_j) : tl (mP mI (mP mA (mP mA mA))) (iM_lay_b75_F N_j a1_j v_ratio_j x3_j v_lie_j v_plain_j k138_j self_j x2_j v_work_j) (pM_lay_b75_F N a1 v_ratio x3 v_lie v_plain k138 self x2 v_work) := by
  subst t_N
  subst t_a1
  subst t_v_ratio
  subst t_x3
  subst t_v_lie
  subst t_v_plain
  subst t_x2
  subst t_v_work
  unfold iM_lay_b75_F pM_lay_b75_F
  refine tl_gd (jg_ib (Eq.refl (mI x3))) (fun _ => ?_)
  refine tl_gd (jg_ib (Eq.refl (mI x3))) (fun _ => ?_)
  refine tl_ite (jc_lt (jrd (Eq.refl (mA v_work)) (jx (Eq.refl (mI x3)))) (jrd (Eq.refl (mA v_ratio)) (jx (Eq.refl (mI x3))))) ?_ ?_
  · exact (tl_e2 (Eq.refl (mI x2)) (Eq.refl (mA v_work)) (t_k138 _ _))
  · refine tl_g (fun h1 => ?_)
    refine tl_gd (jg_ib (ja_add (Eq.refl (mI x3)) jlitI_1 h1)) (fun _ => ?_)
    refine tl_g (fun h2 => ?_)
    refine tl_g (fun h3 => ?_)
    refine tl_ite (jc_le (jrd (jupA (jupA (Eq.refl (mA v_work)) (jx (Eq.refl (mI x3))) (ja_sub (jrd (Eq.refl (mA v_work)) (jx (Eq.refl (mI x3)))) (jrd (Eq.refl (mA v_ratio)) (jx (Eq.refl (mI x3)))) h2)) (jx (ja_add (Eq.refl (mI x3)) jlitI_1 h1)) (ja_add (jrd (jupA (Eq.refl (mA v_work)) (jx (Eq.refl (mI x3))) (ja_sub (jrd (Eq.refl (mA v_work)) (jx (Eq.refl (mI x3)))) (jrd (Eq.refl (mA v_ratio)) (jx (Eq.refl (mI x3)))) h2)) (jx (ja_add (Eq.refl (mI x3)) jlitI_1 h1))) jlitI_1 h3)) (jx (ja_add (Eq.refl (mI x3)) jlitI_1 h1))) jlitI_99) ?_ ?_
    · refine tl_g (fun h4 => ?_)
      exact (tl_e2 (ja_add (Eq.refl (mI x2)) jlitI_1 h4) (jupA (jupA (Eq.refl (mA v_work)) (jx (Eq.refl (mI x3))) (ja_sub (jrd (Eq.refl (mA v_work)) (jx (Eq.refl (mI x3)))) (jrd (Eq.refl (mA v_ratio)) (jx (Eq.refl (mI x3)))) h2)) (jx (ja_add (Eq.refl (mI x3)) jlitI_1 h1)) (ja_add (jrd (jupA (Eq.refl (mA v_work)) (jx (Eq.refl (mI x3))) (ja_sub (jrd (Eq.refl (mA v_work)) (jx (Eq.refl (mI x3)))) (jrd (Eq.refl (mA v_ratio)) (jx (Eq.refl (mI x3)))) h2)) (jx (ja_add (Eq.refl (mI x3)) jlitI_1 h1))) jlitI_1 h3)) (t_self _ _))
    · exact (tl_some (jp2 jlitI_m1 (jp2 (Eq.refl (mA v_lie)) (jp2 (Eq.refl (mA v_plain)) (jupA (jupA (Eq.refl (mA v_work)) (jx (Eq.refl (mI x3))) (ja_sub (jrd (Eq.refl (mA v_work)) (jx (Eq.refl (mI x3)))) (jrd (Eq.refl (mA v_ratio)) (jx (Eq.refl (mI x3)))) h2)) (jx (ja_add (Eq.refl (mI x3)) jlitI_1 h1)) (ja_add (jrd (jupA (Eq.refl (mA v_work)) (jx (Eq.refl (mI x3))) (ja_sub (jrd (Eq.refl (mA v_work)) (jx (Eq.refl (mI x3)))) (jrd (Eq.refl (mA v_ratio)) (jx (Eq.refl (mI x3)))) h2)) (jx (ja_add (Eq.refl (mI x3)) jlitI_1 h1))) jlitI_1 h3))))))
theorem t_pM_lay_b75 {N N_j : Nat} (t_N : N = N_j) {a1 : Int32} {a1_j : Int} (t_a1 : mI a1 = a1_j) {v_ratio : (Nat → Int32)} {v_ratio_j : (Nat → Int)} (t_v_ratio : mA v_ratio = v_ratio_j) {x3 : Int32} {x3_j : Int} (t_x3 : mI x3 = x3_j) {v_lie : (Nat → Int32)} {v_lie_j : (Nat → Int)} (t_v_lie : mA v_lie = v_lie_j) {v_plain : (Nat → Int32)} {v_plain_j : (Nat → Int)} (t_v_plain : mA v_plain = v_plain_j) {k138 : Int32 → (Nat → Int32) → Option R_pM_lay} {k138_j : Int → (Nat → Int) → Option R_iM_lay} (t_k138 : ∀ (q0_ : Int32) (q1_ : (Nat → Int32)), tl (mP mI (mP mA (mP mA mA))) (k138_j (mI q0_) (mA q1_)) (k138 q0_ q1_)) {n n_j : Nat} (t_n : n = n_j) {w0_ : Int32} {w0__j : Int} (t_w0_ : mI w0_ = w0__j) {w1_ : (Nat → Int32)} {w1__j : (Nat → Int)} (t_w1_ : mA w1_ = w1__j) : tl (mP mI (mP mA (mP mA mA))) (iM_lay_b75 N_j a1_j v_ratio_j x3_j v_lie_j v_plain_j k138_j n_j w0__j w1__j) (pM_lay_b75 N a1 v_ratio x3 v_lie v_plain k138 n w0_ w1_) := by
  subst t_N
  subst t_a1
  subst t_v_ratio
  subst t_x3
  subst t_v_lie
  subst t_v_plain
  subst t_n
  subst t_w0_
  subst t_w1_
  exact tl_zlp2 (fun s2 s hs w0_ w1_ => t_pM_lay_b75_F (Eq.refl N) (Eq.refl (mI a1)) (Eq.refl (mA v_ratio)) (Eq.refl (mI x3)) (Eq.refl (mA v_lie)) (Eq.refl (mA v_plain)) t_k138 hs (Eq.refl (mI w0_)) (Eq.refl (mA w1_))) n w0_ w1_
theorem t_pM_lay_b138 {N N_j : Nat} (t_N : N = N_j) {a1 : Int32} {a1_j : Int} (t_a1 : mI a1 = a1_j) {v_ratio : (Nat → Int32)} {v_ratio_j : (Nat → Int)} (t_v_ratio : mA v_ratio = v_ratio_j) {self : Int32 → Int32 → (Nat → Int32) → Option R_pM_lay} {self_j : Int → Int → (Nat → Int) → Option R_iM_lay} (t_self : ∀ (q0_ : Int32) (q1_ : Int32) (q2_ : (Nat → Int32)), tl (mP mI (mP mA (mP mA mA))) (self_j (mI q0_) (mI q1_) (mA q2_)) (self q0_ q1_ q2_)) {k144 : Int32 → (Nat → Int32) → Option R_pM_lay} {k144_j : Int → (Nat → Int) → Option R_iM_lay} (t_k144 : ∀ (q0_ : Int32) (q1_ : (Nat → Int32)), tl (mP mI (mP mA (mP mA mA))) (k144_j (mI q0_) (mA q1_)) (k144 q0_ q1_)) {x2 : Int32} {x2_j : Int} (t_x2 : mI x2 = x2_j) {x3 : Int32} {x3_j : Int} (t_x3 : mI x3 = x3_j) {v_lie : (Nat → Int32)} {v_lie_j : (Nat → Int)} (t_v_lie : mA v_lie = v_lie_j) {v_plain : (Nat → Int32)} {v_plain_j : (Nat → Int)} (t_v_plain : mA v_plain = v_plain_j) {v_work : (Nat → Int32)} {v_work_j : (Nat → Int)} (t_v_work : mA v_work = v_work_j) : tl (mP mI (mP mA (mP mA mA))) (iM_lay_b138 N_j a1_j v_ratio_j self_j k144_j x2_j x3_j v_lie_j v_plain_j v_work_j) (pM_lay_b138 N a1 v_ratio self k144 x2 x3 v_lie v_plain v_work) := by
  subst t_N
  subst t_a1
  subst t_v_ratio
  subst t_x2
  subst t_x3
  subst t_v_lie
  subst t_v_plain
  subst t_v_work
  unfold iM_lay_b138 pM_lay_b138
  refine tl_g (fun h1 => ?_)
  exact (tl_e3 (Eq.refl (mI x2)) (ja_add (Eq.refl (mI x3)) jlitI_1 h1) (Eq.refl (mA v_work)) (t_self _ _ _))
theorem t_pM_lay_b69_F {N N_j : Nat} (t_N : N = N_j) {a1 : Int32} {a1_j : Int} (t_a1 : mI a1 = a1_j) {v_ratio : (Nat → Int32)} {v_ratio_j : (Nat → Int)} (t_v_ratio : mA v_ratio = v_ratio_j) {v_lie : (Nat → Int32)} {v_lie_j : (Nat → Int)} (t_v_lie : mA v_lie = v_lie_j) {v_plain : (Nat → Int32)} {v_plain_j : (Nat → Int)} (t_v_plain : mA v_plain = v_plain_j) {k144 : Int32 → (Nat → Int32) → Option R_pM_lay} {k144_j : Int → (Nat → Int) → Option R_iM_lay} (t_k144 : ∀ (q0_ : Int32) (q1_ : (Nat → Int32)), tl (mP mI (mP mA (mP mA mA))) (k144_j (mI q0_) (mA q1_)) (k144 q0_ q1_)) {self : Int32 → Int32 → (Nat → Int32) → Option R_pM_lay} {self_j : Int → Int → (Nat → Int) → Option R_iM_lay} (t_self : ∀ (q0_ : Int32) (q1_ : Int32) (q2_ : (Nat → Int32)), tl (mP mI (mP mA (mP mA mA))) (self_j (mI q0_) (mI q1_) (mA q2_)) (self q0_ q1_ q2_)) {x2 : Int32} {x2_j : Int} (t_x2 : mI x2 = x2_j) {x3 : Int32} {x3_j : Int} (t_x3 : mI x3 = x3_j) {v_work : (Nat → Int32)} {v_work_j : (Nat → Int)} (t_v_work : mA v_work = v_work_j) : tl (mP mI (mP mA (mP mA mA))) (iM_lay_b69_F N_j a1_j v_ratio_j v_lie_j v_plain_j k144_j self_j x2_j x3_j v_work_j) (pM_lay_b69_F N a1 v_ratio v_lie v_plain k144 self x2 x3 v_work) := by
  subst t_N
  subst t_a1
  subst t_v_ratio
  subst t_v_lie
  subst t_v_plain
  subst t_x2
  subst t_x3
  subst t_v_work
  unfold iM_lay_b69_F pM_lay_b69_F
  refine tl_ite (jc_le jlitI_12 (Eq.refl (mI x3))) ?_ ?_
  · exact (tl_e2 (Eq.refl (mI x2)) (Eq.refl (mA v_work)) (t_k144 _ _))
  · exact (t_pM_lay_b75 (Eq.refl N) (Eq.refl (mI a1)) (Eq.refl (mA v_ratio)) (Eq.refl (mI x3)) (Eq.refl (mA v_lie)) (Eq.refl (mA v_plain)) (fun x2_k2 e9_ => by exact (t_pM_lay_b138 (Eq.refl N) (Eq.refl (mI a1)) (Eq.refl (mA v_ratio)) t_self t_k144 (Eq.refl (mI x2_k2)) (Eq.refl (mI x3)) (Eq.refl (mA v_lie)) (Eq.refl (mA v_plain)) (Eq.refl (mA e9_)))) (Eq.refl N) (Eq.refl (mI x2)) (Eq.refl (mA v_work)))
theorem t_pM_lay_b69 {N N_j : Nat} (t_N : N = N_j) {a1 : Int32} {a1_j : Int} (t_a1 : mI a1 = a1_j) {v_ratio : (Nat → Int32)} {v_ratio_j : (Nat → Int)} (t_v_ratio : mA v_ratio = v_ratio_j) {v_lie : (Nat → Int32)} {v_lie_j : (Nat → Int)} (t_v_lie : mA v_lie = v_lie_j) {v_plain : (Nat → Int32)} {v_plain_j : (Nat → Int)} (t_v_plain : mA v_plain = v_plain_j) {k144 : Int32 → (Nat → Int32) → Option R_pM_lay} {k144_j : Int → (Nat → Int) → Option R_iM_lay} (t_k144 : ∀ (q0_ : Int32) (q1_ : (Nat → Int32)), tl (mP mI (mP mA (mP mA mA))) (k144_j (mI q0_) (mA q1_)) (k144 q0_ q1_)) {n n_j : Nat} (t_n : n = n_j) {w0_ : Int32} {w0__j : Int} (t_w0_ : mI w0_ = w0__j) {w1_ : Int32} {w1__j : Int} (t_w1_ : mI w1_ = w1__j) {w2_ : (Nat → Int32)} {w2__j : (Nat → Int)} (t_w2_ : mA w2_ = w2__j) : tl (mP mI (mP mA (mP mA mA))) (iM_lay_b69 N_j a1_j v_ratio_j v_lie_j v_plain_j k144_j n_j w0__j w1__j w2__j) (pM_lay_b69 N a1 v_ratio v_lie v_plain k144 n w0_ w1_ w2_) := by
  subst t_N
  subst t_a1
  subst t_v_ratio
  subst t_v_lie
  subst t_v_plain
  subst t_n
  subst t_w0_
  subst t_w1_
  subst t_w2_
  exact tl_zlp3 (fun s2 s hs w0_ w1_ w2_ => t_pM_lay_b69_F (Eq.refl N) (Eq.refl (mI a1)) (Eq.refl (mA v_ratio)) (Eq.refl (mA v_lie)) (Eq.refl (mA v_plain)) t_k144 hs (Eq.refl (mI w0_)) (Eq.refl (mI w1_)) (Eq.refl (mA w2_))) n w0_ w1_ w2_
theorem t_pM_lay_b144 {N N_j : Nat} (t_N : N = N_j) {a1 : Int32} {a1_j : Int} (t_a1 : mI a1 = a1_j) {v_ratio : (Nat → Int32)} {v_ratio_j : (Nat → Int)} (t_v_ratio : mA v_ratio = v_ratio_j) {x2 : Int32} {x2_j : Int} (t_x2 : mI x2 = x2_j) {v_lie : (Nat → Int32)} {v_lie_j : (Nat → Int)} (t_v_lie : mA v_lie = v_lie_j) {v_plain : (Nat → Int32)} {v_plain_j : (Nat → Int)} (t_v_plain : mA v_plain = v_plain_j) {v_work : (Nat → Int32)} {v_work_j : (Nat → Int)} (t_v_work : mA v_work = v_work_j) : tl (mP mI (mP mA (mP mA mA))) (iM_lay_b144 N_j a1_j v_ratio_j x2_j v_lie_j v_plain_j v_work_j) (pM_lay_b144 N a1 v_ratio x2 v_lie v_plain v_work) := by
  subst t_N
  subst t_a1
  subst t_v_ratio
  subst t_x2
  subst t_v_lie
  subst t_v_plain
  subst t_v_work
  unfold iM_lay_b144 pM_lay_b144
  refine tl_bd1 (t_pM_stays (Eq.refl N) (Eq.refl (mA v_lie)) (Eq.refl (mA v_work))) (fun v_lie_c5 => ?_)
  exact (tl_some (jp2 (Eq.refl (mI x2)) (jp2 (Eq.refl (mA v_lie_c5)) (jp2 (Eq.refl (mA v_plain)) (Eq.refl (mA v_work))))))
theorem t_pM_lay_b65 {N N_j : Nat} (t_N : N = N_j) {a1 : Int32} {a1_j : Int} (t_a1 : mI a1 = a1_j) {v_ratio : (Nat → Int32)} {v_ratio_j : (Nat → Int)} (t_v_ratio : mA v_ratio = v_ratio_j) {v_lie : (Nat → Int32)} {v_lie_j : (Nat → Int)} (t_v_lie : mA v_lie = v_lie_j) {v_plain : (Nat → Int32)} {v_plain_j : (Nat → Int)} (t_v_plain : mA v_plain = v_plain_j) {v_work : (Nat → Int32)} {v_work_j : (Nat → Int)} (t_v_work : mA v_work = v_work_j) : tl (mP mI (mP mA (mP mA mA))) (iM_lay_b65 N_j a1_j v_ratio_j v_lie_j v_plain_j v_work_j) (pM_lay_b65 N a1 v_ratio v_lie v_plain v_work) := by
  subst t_N
  subst t_a1
  subst t_v_ratio
  subst t_v_lie
  subst t_v_plain
  subst t_v_work
  unfold iM_lay_b65 pM_lay_b65
  exact (t_pM_lay_b69 (Eq.refl N) (Eq.refl (mI a1)) (Eq.refl (mA v_ratio)) (Eq.refl (mA v_lie)) (Eq.refl (mA v_plain)) (fun x2_k4 e6_ => by exact (t_pM_lay_b144 (Eq.refl N) (Eq.refl (mI a1)) (Eq.refl (mA v_ratio)) (Eq.refl (mI x2_k4)) (Eq.refl (mA v_lie)) (Eq.refl (mA v_plain)) (Eq.refl (mA e6_)))) (Eq.refl N) jlitI_0 jlitI_0 (Eq.refl (mA v_work)))
theorem t_pM_lay {N N_j : Nat} (t_N : N = N_j) {a1 : Int32} {a1_j : Int} (t_a1 : mI a1 = a1_j) {v_lie : (Nat → Int32)} {v_lie_j : (Nat → Int)} (t_v_lie : mA v_lie = v_lie_j) {v_plain : (Nat → Int32)} {v_plain_j : (Nat → Int)} (t_v_plain : mA v_plain = v_plain_j) {v_ratio : (Nat → Int32)} {v_ratio_j : (Nat → Int)} (t_v_ratio : mA v_ratio = v_ratio_j) {v_work : (Nat → Int32)} {v_work_j : (Nat → Int)} (t_v_work : mA v_work = v_work_j) : tl (mP mI (mP mA (mP mA mA))) (iM_lay N_j a1_j v_lie_j v_plain_j v_ratio_j v_work_j) (pM_lay N a1 v_lie v_plain v_ratio v_work) := by
  subst t_N
  subst t_a1
  subst t_v_lie
  subst t_v_plain
  subst t_v_ratio
  subst t_v_work
  unfold iM_lay pM_lay
  refine tl_bd1 (t_pM_isIn (ja_i2l (Eq.refl (mI a1))) jlitJ_0 jlitJ_1000000000) (fun rc1 => ?_)
  refine tl_ite (jc_eq (Eq.refl (mI rc1)) jlitI_0) ?_ ?_
  · exact (tl_some (jp2 jlitI_m1 (jp2 (Eq.refl (mA v_lie)) (jp2 (Eq.refl (mA v_plain)) (Eq.refl (mA v_work))))))
  · refine tl_bd1 (t_pM_plains (Eq.refl N) (Eq.refl (mI a1)) (Eq.refl (mA v_plain)) (Eq.refl (mA v_ratio))) (fun v_plain_c2 => ?_)
    refine tl_bd1 (t_pM_works (Eq.refl N) (Eq.refl (mA v_lie)) (Eq.refl (mA v_work))) (fun v_work_c3 => ?_)
    exact (t_pM_lay_b25 (Eq.refl N) (Eq.refl (mI a1)) (Eq.refl (mA v_ratio)) (Eq.refl (mA v_lie)) (Eq.refl (mA v_plain_c2)) (fun e5_ => by exact (t_pM_lay_b65 (Eq.refl N) (Eq.refl (mI a1)) (Eq.refl (mA v_ratio)) (Eq.refl (mA v_lie)) (Eq.refl (mA v_plain_c2)) (Eq.refl (mA e5_)))) (Eq.refl N) jlitI_0 (Eq.refl (mA v_work_c3)))
theorem t_pM_above_b4_F {N N_j : Nat} (t_N : N = N_j) {a1 : Int32} {a1_j : Int} (t_a1 : mI a1 = a1_j) {v_work : (Nat → Int32)} {v_work_j : (Nat → Int)} (t_v_work : mA v_work = v_work_j) {k25 : Int32 → Option R_pM_above} {k25_j : Int → Option Int} (t_k25 : ∀ (q0_ : Int32), tl (mI) (k25_j (mI q0_)) (k25 q0_)) {self : Int32 → Option R_pM_above} {self_j : Int → Option Int} (t_self : ∀ (q0_ : Int32), tl (mI) (self_j (mI q0_)) (self q0_)) {x2 : Int32} {x2_j : Int} (t_x2 : mI x2 = x2_j) : tl (mI) (iM_above_b4_F N_j a1_j v_work_j k25_j self_j x2_j) (pM_above_b4_F N a1 v_work k25 self x2) := by
  subst t_N
  subst t_a1
  subst t_v_work
  subst t_x2
  unfold iM_above_b4_F pM_above_b4_F
  refine tl_ite (jc_le jlitI_13 (Eq.refl (mI x2))) ?_ ?_
  · exact (tl_e1 (Eq.refl (mI x2)) (t_k25 _))
  · refine tl_gd (jg_ib (Eq.refl (mI x2))) (fun _ => ?_)
    refine tl_ite (jc_eq (jrd (Eq.refl (mA v_work)) (jx (Eq.refl (mI x2)))) jlitI_0) ?_ ?_
    · refine tl_g (fun h1 => ?_)
      exact (tl_e1 (ja_add (Eq.refl (mI x2)) jlitI_1 h1) (t_self _))
    · exact (tl_e1 (Eq.refl (mI x2)) (t_k25 _))
theorem t_pM_above_b4 {N N_j : Nat} (t_N : N = N_j) {a1 : Int32} {a1_j : Int} (t_a1 : mI a1 = a1_j) {v_work : (Nat → Int32)} {v_work_j : (Nat → Int)} (t_v_work : mA v_work = v_work_j) {k25 : Int32 → Option R_pM_above} {k25_j : Int → Option Int} (t_k25 : ∀ (q0_ : Int32), tl (mI) (k25_j (mI q0_)) (k25 q0_)) {n n_j : Nat} (t_n : n = n_j) {w0_ : Int32} {w0__j : Int} (t_w0_ : mI w0_ = w0__j) : tl (mI) (iM_above_b4 N_j a1_j v_work_j k25_j n_j w0__j) (pM_above_b4 N a1 v_work k25 n w0_) := by
  subst t_N
  subst t_a1
  subst t_v_work
  subst t_n
  subst t_w0_
  exact tl_zlp1 (fun s2 s hs w0_ => t_pM_above_b4_F (Eq.refl N) (Eq.refl (mI a1)) (Eq.refl (mA v_work)) t_k25 hs (Eq.refl (mI w0_))) n w0_
theorem t_pM_above_b25 {N N_j : Nat} (t_N : N = N_j) {a1 : Int32} {a1_j : Int} (t_a1 : mI a1 = a1_j) {v_work : (Nat → Int32)} {v_work_j : (Nat → Int)} (t_v_work : mA v_work = v_work_j) {x2 : Int32} {x2_j : Int} (t_x2 : mI x2 = x2_j) : tl (mI) (iM_above_b25 N_j a1_j v_work_j x2_j) (pM_above_b25 N a1 v_work x2) := by
  subst t_N
  subst t_a1
  subst t_v_work
  subst t_x2
  unfold iM_above_b25 pM_above_b25
  refine tl_ite (jc_le jlitI_13 (Eq.refl (mI x2))) ?_ ?_
  · exact (tl_some jlitI_m1)
  · exact (tl_some (Eq.refl (mI x2)))
theorem t_pM_above {N N_j : Nat} (t_N : N = N_j) {a1 : Int32} {a1_j : Int} (t_a1 : mI a1 = a1_j) {v_work : (Nat → Int32)} {v_work_j : (Nat → Int)} (t_v_work : mA v_work = v_work_j) : tl (mI) (iM_above N_j a1_j v_work_j) (pM_above N a1 v_work) := by
  subst t_N
  subst t_a1
  subst t_v_work
  unfold iM_above pM_above
  refine tl_g (fun h1 => ?_)
  exact (t_pM_above_b4 (Eq.refl N) (Eq.refl (mI a1)) (Eq.refl (mA v_work)) (fun e3_ => by exact (t_pM_above_b25 (Eq.refl N) (Eq.refl (mI a1)) (Eq.refl (mA v_work)) (Eq.refl (mI e3_)))) (Eq.refl N) (ja_add (Eq.refl (mI a1)) jlitI_1 h1))
theorem t_pM_draw_b77_F {N N_j : Nat} (t_N : N = N_j) {a1 : Int32} {a1_j : Int} (t_a1 : mI a1 = a1_j) {v_ratio : (Nat → Int32)} {v_ratio_j : (Nat → Int)} (t_v_ratio : mA v_ratio = v_ratio_j) {x3 : Int32} {x3_j : Int} (t_x3 : mI x3 = x3_j) {v_lie : (Nat → Int32)} {v_lie_j : (Nat → Int)} (t_v_lie : mA v_lie = v_lie_j) {v_plain : (Nat → Int32)} {v_plain_j : (Nat → Int)} (t_v_plain : mA v_plain = v_plain_j) {k124 : Int32 → (Nat → Int32) → Option R_pM_draw} {k124_j : Int → (Nat → Int) → Option R_iM_draw} (t_k124 : ∀ (q0_ : Int32) (q1_ : (Nat → Int32)), tl (mP mI (mP mA (mP mA mA))) (k124_j (mI q0_) (mA q1_)) (k124 q0_ q1_)) {self : Int32 → Int32 → (Nat → Int32) → Option R_pM_draw} {self_j : Int → Int → (Nat → Int) → Option R_iM_draw} (t_self : ∀ (q0_ : Int32) (q1_ : Int32) (q2_ : (Nat → Int32)), tl (mP mI (mP mA (mP mA mA))) (self_j (mI q0_) (mI q1_) (mA q2_)) (self q0_ q1_ q2_)) {x2 : Int32} {x2_j : Int} (t_x2 : mI x2 = x2_j) {x5 : Int32} {x5_j : Int} (t_x5 : mI x5 = x5_j) {v_work : (Nat → Int32)} {v_work_j : (Nat → Int)} (t_v_work : mA v_work = v_work_j) : tl (mP mI (mP mA (mP mA mA))) (iM_draw_b77_F N_j a1_j v_ratio_j x3_j v_lie_j v_plain_j k124_j self_j x2_j x5_j v_work_j) (pM_draw_b77_F N a1 v_ratio x3 v_lie v_plain k124 self x2 x5 v_work) := by
  subst t_N
  subst t_a1
  subst t_v_ratio
  subst t_x3
  subst t_v_lie
  subst t_v_plain
  subst t_x2
  subst t_x5
  subst t_v_work
  unfold iM_draw_b77_F pM_draw_b77_F
  refine tl_ite (jc_le (Eq.refl (mI x5)) (Eq.refl (mI x3))) ?_ ?_
  · exact (tl_e2 (Eq.refl (mI x2)) (Eq.refl (mA v_work)) (t_k124 _ _))
  · refine tl_gd (jg_ib (Eq.refl (mI x5))) (fun _ => ?_)
    refine tl_g (fun h1 => ?_)
    refine tl_gd (jg_ib (ja_sub (Eq.refl (mI x5)) jlitI_1 h1)) (fun _ => ?_)
    refine tl_gd (jg_ib (ja_sub (Eq.refl (mI x5)) jlitI_1 h1)) (fun _ => ?_)
    refine tl_g (fun h2 => ?_)
    refine tl_g (fun h3 => ?_)
    refine tl_g (fun h4 => ?_)
    refine tl_g (fun h5 => ?_)
    exact (tl_e3 (ja_add (Eq.refl (mI x2)) jlitI_1 h2) (ja_add (Eq.refl (mI x5)) jlitI_m1 h3) (jupA (jupA (Eq.refl (mA v_work)) (jx (Eq.refl (mI x5))) (ja_sub (jrd (Eq.refl (mA v_work)) (jx (Eq.refl (mI x5)))) jlitI_1 h4)) (jx (ja_sub (Eq.refl (mI x5)) jlitI_1 h1)) (ja_add (jrd (jupA (Eq.refl (mA v_work)) (jx (Eq.refl (mI x5))) (ja_sub (jrd (Eq.refl (mA v_work)) (jx (Eq.refl (mI x5)))) jlitI_1 h4)) (jx (ja_sub (Eq.refl (mI x5)) jlitI_1 h1))) (jrd (Eq.refl (mA v_ratio)) (jx (ja_sub (Eq.refl (mI x5)) jlitI_1 h1))) h5)) (t_self _ _ _))
theorem t_pM_draw_b77 {N N_j : Nat} (t_N : N = N_j) {a1 : Int32} {a1_j : Int} (t_a1 : mI a1 = a1_j) {v_ratio : (Nat → Int32)} {v_ratio_j : (Nat → Int)} (t_v_ratio : mA v_ratio = v_ratio_j) {x3 : Int32} {x3_j : Int} (t_x3 : mI x3 = x3_j) {v_lie : (Nat → Int32)} {v_lie_j : (Nat → Int)} (t_v_lie : mA v_lie = v_lie_j) {v_plain : (Nat → Int32)} {v_plain_j : (Nat → Int)} (t_v_plain : mA v_plain = v_plain_j) {k124 : Int32 → (Nat → Int32) → Option R_pM_draw} {k124_j : Int → (Nat → Int) → Option R_iM_draw} (t_k124 : ∀ (q0_ : Int32) (q1_ : (Nat → Int32)), tl (mP mI (mP mA (mP mA mA))) (k124_j (mI q0_) (mA q1_)) (k124 q0_ q1_)) {n n_j : Nat} (t_n : n = n_j) {w0_ : Int32} {w0__j : Int} (t_w0_ : mI w0_ = w0__j) {w1_ : Int32} {w1__j : Int} (t_w1_ : mI w1_ = w1__j) {w2_ : (Nat → Int32)} {w2__j : (Nat → Int)} (t_w2_ : mA w2_ = w2__j) : tl (mP mI (mP mA (mP mA mA))) (iM_draw_b77 N_j a1_j v_ratio_j x3_j v_lie_j v_plain_j k124_j n_j w0__j w1__j w2__j) (pM_draw_b77 N a1 v_ratio x3 v_lie v_plain k124 n w0_ w1_ w2_) := by
  subst t_N
  subst t_a1
  subst t_v_ratio
  subst t_x3
  subst t_v_lie
  subst t_v_plain
  subst t_n
  subst t_w0_
  subst t_w1_
  subst t_w2_
  exact tl_zlp3 (fun s2 s hs w0_ w1_ w2_ => t_pM_draw_b77_F (Eq.refl N) (Eq.refl (mI a1)) (Eq.refl (mA v_ratio)) (Eq.refl (mI x3)) (Eq.refl (mA v_lie)) (Eq.refl (mA v_plain)) t_k124 hs (Eq.refl (mI w0_)) (Eq.refl (mI w1_)) (Eq.refl (mA w2_))) n w0_ w1_ w2_
theorem t_pM_draw_b124 {N N_j : Nat} (t_N : N = N_j) {a1 : Int32} {a1_j : Int} (t_a1 : mI a1 = a1_j) {v_ratio : (Nat → Int32)} {v_ratio_j : (Nat → Int)} (t_v_ratio : mA v_ratio = v_ratio_j) {self : Int32 → (Nat → Int32) → Option R_pM_draw} {self_j : Int → (Nat → Int) → Option R_iM_draw} (t_self : ∀ (q0_ : Int32) (q1_ : (Nat → Int32)), tl (mP mI (mP mA (mP mA mA))) (self_j (mI q0_) (mA q1_)) (self q0_ q1_)) {k127 : Int32 → (Nat → Int32) → Option R_pM_draw} {k127_j : Int → (Nat → Int) → Option R_iM_draw} (t_k127 : ∀ (q0_ : Int32) (q1_ : (Nat → Int32)), tl (mP mI (mP mA (mP mA mA))) (k127_j (mI q0_) (mA q1_)) (k127 q0_ q1_)) {x2 : Int32} {x2_j : Int} (t_x2 : mI x2 = x2_j) {x3 : Int32} {x3_j : Int} (t_x3 : mI x3 = x3_j) {v_lie : (Nat → Int32)} {v_lie_j : (Nat → Int)} (t_v_lie : mA v_lie = v_lie_j) {v_plain : (Nat → Int32)} {v_plain_j : (Nat → Int)} (t_v_plain : mA v_plain = v_plain_j) {v_work : (Nat → Int32)} {v_work_j : (Nat → Int)} (t_v_work : mA v_work = v_work_j) : tl (mP mI (mP mA (mP mA mA))) (iM_draw_b124 N_j a1_j v_ratio_j self_j k127_j x2_j x3_j v_lie_j v_plain_j v_work_j) (pM_draw_b124 N a1 v_ratio self k127 x2 x3 v_lie v_plain v_work) := by
  subst t_N
  subst t_a1
  subst t_v_ratio
  subst t_x2
  subst t_x3
  subst t_v_lie
  subst t_v_plain
  subst t_v_work
  unfold iM_draw_b124 pM_draw_b124
  exact (tl_e2 (Eq.refl (mI x2)) (Eq.refl (mA v_work)) (t_self _ _))
theorem t_pM_draw_b43_F {N N_j : Nat} (t_N : N = N_j) {a1 : Int32} {a1_j : Int} (t_a1 : mI a1 = a1_j) {v_ratio : (Nat → Int32)} {v_ratio_j : (Nat → Int)} (t_v_ratio : mA v_ratio = v_ratio_j) {x3 : Int32} {x3_j : Int} (t_x3 : mI x3 = x3_j) {v_lie : (Nat → Int32)} {v_lie_j : (Nat → Int)} (t_v_lie : mA v_lie = v_lie_j) {v_plain : (Nat → Int32)} {v_plain_j : (Nat → Int)} (t_v_plain : mA v_plain = v_plain_j) {k127 : Int32 → (Nat → Int32) → Option R_pM_draw} {k127_j : Int → (Nat → Int) → Option R_iM_draw} (t_k127 : ∀ (q0_ : Int32) (q1_ : (Nat → Int32)), tl (mP mI (mP mA (mP mA mA))) (k127_j (mI q0_) (mA q1_)) (k127 q0_ q1_)) {self : Int32 → (Nat → Int32) → Option R_pM_draw} {self_j : Int → (Nat → Int) → Option R_iM_draw} (t_self : ∀ (q0_ : Int32) (q1_ : (Nat → Int32)), tl (mP mI (mP mA (mP mA mA))) (self_j (mI q0_) (mA q1_)) (self q0_ q1_)) {x2 : Int32} {x2_j : Int} (t_x2 : mI x2 = x2_j) {v_work : (Nat → Int32)} {v_work_j : (Nat → Int)} (t_v_work : mA v_work = v_work_j) : tl (mP mI (mP mA (mP mA mA))) (iM_draw_b43_F N_j a1_j v_ratio_j x3_j v_lie_j v_plain_j k127_j self_j x2_j v_work_j) (pM_draw_b43_F N a1 v_ratio x3 v_lie v_plain k127 self x2 v_work) := by
  subst t_N
  subst t_a1
  subst t_v_ratio
  subst t_x3
  subst t_v_lie
  subst t_v_plain
  subst t_x2
  subst t_v_work
  unfold iM_draw_b43_F pM_draw_b43_F
  refine tl_gd (jg_ib (Eq.refl (mI x3))) (fun _ => ?_)
  refine tl_ite (jc_le (jrd (Eq.refl (mA v_plain)) (jx (Eq.refl (mI x3)))) (jrd (Eq.refl (mA v_work)) (jx (Eq.refl (mI x3))))) ?_ ?_
  · exact (tl_e2 (Eq.refl (mI x2)) (Eq.refl (mA v_work)) (t_k127 _ _))
  · refine tl_bd1 (t_pM_above (Eq.refl N) (Eq.refl (mI x3)) (Eq.refl (mA v_work))) (fun rc7 => ?_)
    refine tl_ite (jc_eq (Eq.refl (mI rc7)) jlitI_m1) ?_ ?_
    · exact (tl_some (jp2 jlitI_m1 (jp2 (Eq.refl (mA v_lie)) (jp2 (Eq.refl (mA v_plain)) (Eq.refl (mA v_work))))))
    · exact (t_pM_draw_b77 (Eq.refl N) (Eq.refl (mI a1)) (Eq.refl (mA v_ratio)) (Eq.refl (mI x3)) (Eq.refl (mA v_lie)) (Eq.refl (mA v_plain)) (fun x2_k1 e9_ => by exact (t_pM_draw_b124 (Eq.refl N) (Eq.refl (mI a1)) (Eq.refl (mA v_ratio)) t_self t_k127 (Eq.refl (mI x2_k1)) (Eq.refl (mI x3)) (Eq.refl (mA v_lie)) (Eq.refl (mA v_plain)) (Eq.refl (mA e9_)))) (Eq.refl N) (Eq.refl (mI x2)) (Eq.refl (mI rc7)) (Eq.refl (mA v_work)))
theorem t_pM_draw_b43 {N N_j : Nat} (t_N : N = N_j) {a1 : Int32} {a1_j : Int} (t_a1 : mI a1 = a1_j) {v_ratio : (Nat → Int32)} {v_ratio_j : (Nat → Int)} (t_v_ratio : mA v_ratio = v_ratio_j) {x3 : Int32} {x3_j : Int} (t_x3 : mI x3 = x3_j) {v_lie : (Nat → Int32)} {v_lie_j : (Nat → Int)} (t_v_lie : mA v_lie = v_lie_j) {v_plain : (Nat → Int32)} {v_plain_j : (Nat → Int)} (t_v_plain : mA v_plain = v_plain_j) {k127 : Int32 → (Nat → Int32) → Option R_pM_draw} {k127_j : Int → (Nat → Int) → Option R_iM_draw} (t_k127 : ∀ (q0_ : Int32) (q1_ : (Nat → Int32)), tl (mP mI (mP mA (mP mA mA))) (k127_j (mI q0_) (mA q1_)) (k127 q0_ q1_)) {n n_j : Nat} (t_n : n = n_j) {w0_ : Int32} {w0__j : Int} (t_w0_ : mI w0_ = w0__j) {w1_ : (Nat → Int32)} {w1__j : (Nat → Int)} (t_w1_ : mA w1_ = w1__j) : tl (mP mI (mP mA (mP mA mA))) (iM_draw_b43 N_j a1_j v_ratio_j x3_j v_lie_j v_plain_j k127_j n_j w0__j w1__j) (pM_draw_b43 N a1 v_ratio x3 v_lie v_plain k127 n w0_ w1_) := by
  subst t_N
  subst t_a1
  subst t_v_ratio
  subst t_x3
  subst t_v_lie
  subst t_v_plain
  subst t_n
  subst t_w0_
  subst t_w1_
  exact tl_zlp2 (fun s2 s hs w0_ w1_ => t_pM_draw_b43_F (Eq.refl N) (Eq.refl (mI a1)) (Eq.refl (mA v_ratio)) (Eq.refl (mI x3)) (Eq.refl (mA v_lie)) (Eq.refl (mA v_plain)) t_k127 hs (Eq.refl (mI w0_)) (Eq.refl (mA w1_))) n w0_ w1_
theorem t_pM_draw_b127 {N N_j : Nat} (t_N : N = N_j) {a1 : Int32} {a1_j : Int} (t_a1 : mI a1 = a1_j) {v_ratio : (Nat → Int32)} {v_ratio_j : (Nat → Int)} (t_v_ratio : mA v_ratio = v_ratio_j) {self : Int32 → Int32 → (Nat → Int32) → Option R_pM_draw} {self_j : Int → Int → (Nat → Int) → Option R_iM_draw} (t_self : ∀ (q0_ : Int32) (q1_ : Int32) (q2_ : (Nat → Int32)), tl (mP mI (mP mA (mP mA mA))) (self_j (mI q0_) (mI q1_) (mA q2_)) (self q0_ q1_ q2_)) {k148 : Int32 → (Nat → Int32) → Option R_pM_draw} {k148_j : Int → (Nat → Int) → Option R_iM_draw} (t_k148 : ∀ (q0_ : Int32) (q1_ : (Nat → Int32)), tl (mP mI (mP mA (mP mA mA))) (k148_j (mI q0_) (mA q1_)) (k148 q0_ q1_)) {x2 : Int32} {x2_j : Int} (t_x2 : mI x2 = x2_j) {x3 : Int32} {x3_j : Int} (t_x3 : mI x3 = x3_j) {v_lie : (Nat → Int32)} {v_lie_j : (Nat → Int)} (t_v_lie : mA v_lie = v_lie_j) {v_plain : (Nat → Int32)} {v_plain_j : (Nat → Int)} (t_v_plain : mA v_plain = v_plain_j) {v_work : (Nat → Int32)} {v_work_j : (Nat → Int)} (t_v_work : mA v_work = v_work_j) : tl (mP mI (mP mA (mP mA mA))) (iM_draw_b127 N_j a1_j v_ratio_j self_j k148_j x2_j x3_j v_lie_j v_plain_j v_work_j) (pM_draw_b127 N a1 v_ratio self k148 x2 x3 v_lie v_plain v_work) := by
  subst t_N
  subst t_a1
  subst t_v_ratio
  subst t_x2
  subst t_x3
  subst t_v_lie
  subst t_v_plain
  subst t_v_work
  unfold iM_draw_b127 pM_draw_b127
  refine tl_gd (jg_ib (Eq.refl (mI x3))) (fun _ => ?_)
  refine tl_g (fun h1 => ?_)
  refine tl_g (fun h2 => ?_)
  exact (tl_e3 (Eq.refl (mI x2)) (ja_add (Eq.refl (mI x3)) jlitI_1 h1) (jupA (Eq.refl (mA v_work)) (jx (Eq.refl (mI x3))) (ja_sub (jrd (Eq.refl (mA v_work)) (jx (Eq.refl (mI x3)))) (jrd (Eq.refl (mA v_plain)) (jx (Eq.refl (mI x3)))) h2)) (t_self _ _ _))
theorem t_pM_draw_b37_F {N N_j : Nat} (t_N : N = N_j) {a1 : Int32} {a1_j : Int} (t_a1 : mI a1 = a1_j) {v_ratio : (Nat → Int32)} {v_ratio_j : (Nat → Int)} (t_v_ratio : mA v_ratio = v_ratio_j) {v_lie : (Nat → Int32)} {v_lie_j : (Nat → Int)} (t_v_lie : mA v_lie = v_lie_j) {v_plain : (Nat → Int32)} {v_plain_j : (Nat → Int)} (t_v_plain : mA v_plain = v_plain_j) {k148 : Int32 → (Nat → Int32) → Option R_pM_draw} {k148_j : Int → (Nat → Int) → Option R_iM_draw} (t_k148 : ∀ (q0_ : Int32) (q1_ : (Nat → Int32)), tl (mP mI (mP mA (mP mA mA))) (k148_j (mI q0_) (mA q1_)) (k148 q0_ q1_)) {self : Int32 → Int32 → (Nat → Int32) → Option R_pM_draw} {self_j : Int → Int → (Nat → Int) → Option R_iM_draw} (t_self : ∀ (q0_ : Int32) (q1_ : Int32) (q2_ : (Nat → Int32)), tl (mP mI (mP mA (mP mA mA))) (self_j (mI q0_) (mI q1_) (mA q2_)) (self q0_ q1_ q2_)) {x2 : Int32} {x2_j : Int} (t_x2 : mI x2 = x2_j) {x3 : Int32} {x3_j : Int} (t_x3 : mI x3 = x3_j) {v_work : (Nat → Int32)} {v_work_j : (Nat → Int)} (t_v_work : mA v_work = v_work_j) : tl (mP mI (mP mA (mP mA mA))) (iM_draw_b37_F N_j a1_j v_ratio_j v_lie_j v_plain_j k148_j self_j x2_j x3_j v_work_j) (pM_draw_b37_F N a1 v_ratio v_lie v_plain k148 self x2 x3 v_work) := by
  subst t_N
  subst t_a1
  subst t_v_ratio
  subst t_v_lie
  subst t_v_plain
  subst t_x2
  subst t_x3
  subst t_v_work
  unfold iM_draw_b37_F pM_draw_b37_F
  refine tl_ite (jc_le jlitI_13 (Eq.refl (mI x3))) ?_ ?_
  · exact (tl_e2 (Eq.refl (mI x2)) (Eq.refl (mA v_work)) (t_k148 _ _))
  · exact (t_pM_draw_b43 (Eq.refl N) (Eq.refl (mI a1)) (Eq.refl (mA v_ratio)) (Eq.refl (mI x3)) (Eq.refl (mA v_lie)) (Eq.refl (mA v_plain)) (fun x2_k3 e9_ => by exact (t_pM_draw_b127 (Eq.refl N) (Eq.refl (mI a1)) (Eq.refl (mA v_ratio)) t_self t_k148 (Eq.refl (mI x2_k3)) (Eq.refl (mI x3)) (Eq.refl (mA v_lie)) (Eq.refl (mA v_plain)) (Eq.refl (mA e9_)))) (Eq.refl N) (Eq.refl (mI x2)) (Eq.refl (mA v_work)))
theorem t_pM_draw_b37 {N N_j : Nat} (t_N : N = N_j) {a1 : Int32} {a1_j : Int} (t_a1 : mI a1 = a1_j) {v_ratio : (Nat → Int32)} {v_ratio_j : (Nat → Int)} (t_v_ratio : mA v_ratio = v_ratio_j) {v_lie : (Nat → Int32)} {v_lie_j : (Nat → Int)} (t_v_lie : mA v_lie = v_lie_j) {v_plain : (Nat → Int32)} {v_plain_j : (Nat → Int)} (t_v_plain : mA v_plain = v_plain_j) {k148 : Int32 → (Nat → Int32) → Option R_pM_draw} {k148_j : Int → (Nat → Int) → Option R_iM_draw} (t_k148 : ∀ (q0_ : Int32) (q1_ : (Nat → Int32)), tl (mP mI (mP mA (mP mA mA))) (k148_j (mI q0_) (mA q1_)) (k148 q0_ q1_)) {n n_j : Nat} (t_n : n = n_j) {w0_ : Int32} {w0__j : Int} (t_w0_ : mI w0_ = w0__j) {w1_ : Int32} {w1__j : Int} (t_w1_ : mI w1_ = w1__j) {w2_ : (Nat → Int32)} {w2__j : (Nat → Int)} (t_w2_ : mA w2_ = w2__j) : tl (mP mI (mP mA (mP mA mA))) (iM_draw_b37 N_j a1_j v_ratio_j v_lie_j v_plain_j k148_j n_j w0__j w1__j w2__j) (pM_draw_b37 N a1 v_ratio v_lie v_plain k148 n w0_ w1_ w2_) := by
  subst t_N
  subst t_a1
  subst t_v_ratio
  subst t_v_lie
  subst t_v_plain
  subst t_n
  subst t_w0_
  subst t_w1_
  subst t_w2_
  exact tl_zlp3 (fun s2 s hs w0_ w1_ w2_ => t_pM_draw_b37_F (Eq.refl N) (Eq.refl (mI a1)) (Eq.refl (mA v_ratio)) (Eq.refl (mA v_lie)) (Eq.refl (mA v_plain)) t_k148 hs (Eq.refl (mI w0_)) (Eq.refl (mI w1_)) (Eq.refl (mA w2_))) n w0_ w1_ w2_
theorem t_pM_draw_b148 {N N_j : Nat} (t_N : N = N_j) {a1 : Int32} {a1_j : Int} (t_a1 : mI a1 = a1_j) {v_ratio : (Nat → Int32)} {v_ratio_j : (Nat → Int)} (t_v_ratio : mA v_ratio = v_ratio_j) {x2 : Int32} {x2_j : Int} (t_x2 : mI x2 = x2_j) {v_lie : (Nat → Int32)} {v_lie_j : (Nat → Int)} (t_v_lie : mA v_lie = v_lie_j) {v_plain : (Nat → Int32)} {v_plain_j : (Nat → Int)} (t_v_plain : mA v_plain = v_plain_j) {v_work : (Nat → Int32)} {v_work_j : (Nat → Int)} (t_v_work : mA v_work = v_work_j) : tl (mP mI (mP mA (mP mA mA))) (iM_draw_b148 N_j a1_j v_ratio_j x2_j v_lie_j v_plain_j v_work_j) (pM_draw_b148 N a1 v_ratio x2 v_lie v_plain v_work) := by
  subst t_N
  subst t_a1
  subst t_v_ratio
  subst t_x2
  subst t_v_lie
  subst t_v_plain
  subst t_v_work
  unfold iM_draw_b148 pM_draw_b148
  refine tl_bd1 (t_pM_stays (Eq.refl N) (Eq.refl (mA v_lie)) (Eq.refl (mA v_work))) (fun v_lie_c5 => ?_)
  exact (tl_some (jp2 (Eq.refl (mI x2)) (jp2 (Eq.refl (mA v_lie_c5)) (jp2 (Eq.refl (mA v_plain)) (Eq.refl (mA v_work))))))
theorem t_pM_draw {N N_j : Nat} (t_N : N = N_j) {a1 : Int32} {a1_j : Int} (t_a1 : mI a1 = a1_j) {v_lie : (Nat → Int32)} {v_lie_j : (Nat → Int)} (t_v_lie : mA v_lie = v_lie_j) {v_plain : (Nat → Int32)} {v_plain_j : (Nat → Int)} (t_v_plain : mA v_plain = v_plain_j) {v_ratio : (Nat → Int32)} {v_ratio_j : (Nat → Int)} (t_v_ratio : mA v_ratio = v_ratio_j) {v_work : (Nat → Int32)} {v_work_j : (Nat → Int)} (t_v_work : mA v_work = v_work_j) : tl (mP mI (mP mA (mP mA mA))) (iM_draw N_j a1_j v_lie_j v_plain_j v_ratio_j v_work_j) (pM_draw N a1 v_lie v_plain v_ratio v_work) := by
  subst t_N
  subst t_a1
  subst t_v_lie
  subst t_v_plain
  subst t_v_ratio
  subst t_v_work
  unfold iM_draw pM_draw
  refine tl_bd1 (t_pM_isIn (ja_i2l (Eq.refl (mI a1))) jlitJ_0 jlitJ_1000000000) (fun rc1 => ?_)
  refine tl_ite (jc_eq (Eq.refl (mI rc1)) jlitI_0) ?_ ?_
  · exact (tl_some (jp2 jlitI_m1 (jp2 (Eq.refl (mA v_lie)) (jp2 (Eq.refl (mA v_plain)) (Eq.refl (mA v_work))))))
  · refine tl_bd1 (t_pM_worth (Eq.refl N) (Eq.refl (mA v_lie)) (Eq.refl (mA v_ratio))) (fun rc2 => ?_)
    refine tl_ite (jk_le (ja_i2l (Eq.refl (mI a1))) (Eq.refl (mJ rc2))) ?_ ?_
    · refine tl_bd1 (t_pM_plains (Eq.refl N) (Eq.refl (mI a1)) (Eq.refl (mA v_plain)) (Eq.refl (mA v_ratio))) (fun v_plain_c3 => ?_)
      refine tl_bd1 (t_pM_works (Eq.refl N) (Eq.refl (mA v_lie)) (Eq.refl (mA v_work))) (fun v_work_c4 => ?_)
      exact (t_pM_draw_b37 (Eq.refl N) (Eq.refl (mI a1)) (Eq.refl (mA v_ratio)) (Eq.refl (mA v_lie)) (Eq.refl (mA v_plain_c3)) (fun x2_k5 e6_ => by exact (t_pM_draw_b148 (Eq.refl N) (Eq.refl (mI a1)) (Eq.refl (mA v_ratio)) (Eq.refl (mI x2_k5)) (Eq.refl (mA v_lie)) (Eq.refl (mA v_plain_c3)) (Eq.refl (mA e6_)))) (Eq.refl N) jlitI_0 jlitI_0 (Eq.refl (mA v_work_c4)))
    · exact (tl_some (jp2 jlitI_m1 (jp2 (Eq.refl (mA v_lie)) (jp2 (Eq.refl (mA v_plain)) (Eq.refl (mA v_work))))))
theorem t_pM_size {a0 : Int32} {a0_j : Int} (t_a0 : mI a0 = a0_j) : tl (mI) (iM_size a0_j) (pM_size a0) := by
  subst t_a0
  unfold iM_size pM_size
  refine tl_ite (jc_le jlitI_0 (Eq.refl (mI a0))) ?_ ?_
  · exact (tl_some (Eq.refl (mI a0)))
  · refine tl_g (fun h1 => ?_)
    exact (tl_some (ja_neg (Eq.refl (mI a0)) h1))
theorem t_pM_steps_b46 {N N_j : Nat} (t_N : N = N_j) {a1 : Int32} {a1_j : Int} (t_a1 : mI a1 = a1_j) {v_lie : (Nat → Int32)} {v_lie_j : (Nat → Int)} (t_v_lie : mA v_lie = v_lie_j) {v_ratio : (Nat → Int32)} {v_ratio_j : (Nat → Int)} (t_v_ratio : mA v_ratio = v_ratio_j) {self : Int32 → (Nat → Int32) → Option R_pM_steps} {self_j : Int → (Nat → Int) → Option R_iM_steps} (t_self : ∀ (q0_ : Int32) (q1_ : (Nat → Int32)), tl (mP mI (mP mA (mP mA mA))) (self_j (mI q0_) (mA q1_)) (self q0_ q1_)) {k53 : (Nat → Int32) → Option R_pM_steps} {k53_j : (Nat → Int) → Option R_iM_steps} (t_k53 : ∀ (q0_ : (Nat → Int32)), tl (mP mI (mP mA (mP mA mA))) (k53_j (mA q0_)) (k53 q0_)) {x2 : Int32} {x2_j : Int} (t_x2 : mI x2 = x2_j) {s1 : Int32} {s1_j : Int} (t_s1 : mI s1 = s1_j) {s2 : Int32} {s2_j : Int} (t_s2 : mI s2 = s2_j) {v_fewest : (Nat → Int32)} {v_fewest_j : (Nat → Int)} (t_v_fewest : mA v_fewest = v_fewest_j) {v_next : (Nat → Int32)} {v_next_j : (Nat → Int)} (t_v_next : mA v_next = v_next_j) {v_plain : (Nat → Int32)} {v_plain_j : (Nat → Int)} (t_v_plain : mA v_plain = v_plain_j) : tl (mP mI (mP mA (mP mA mA))) (iM_steps_b46 N_j a1_j v_lie_j v_ratio_j self_j k53_j x2_j s1_j s2_j v_fewest_j v_next_j v_plain_j) (pM_steps_b46 N a1 v_lie v_ratio self k53 x2 s1 s2 v_fewest v_next v_plain) := by
  subst t_N
  subst t_a1
  subst t_v_lie
  subst t_v_ratio
  subst t_x2
  subst t_s1
  subst t_s2
  subst t_v_fewest
  subst t_v_next
  subst t_v_plain
  unfold iM_steps_b46 pM_steps_b46
  refine tl_gd (jg_ib (Eq.refl (mI s1))) (fun _ => ?_)
  refine tl_g (fun h1 => ?_)
  exact (tl_e2 (ja_add (Eq.refl (mI x2)) jlitI_1 h1) (jupA (Eq.refl (mA v_fewest)) (jx (Eq.refl (mI s1))) (Eq.refl (mI s2))) (t_self _ _))
theorem t_pM_steps_b21_F {N N_j : Nat} (t_N : N = N_j) {a1 : Int32} {a1_j : Int} (t_a1 : mI a1 = a1_j) {v_lie : (Nat → Int32)} {v_lie_j : (Nat → Int)} (t_v_lie : mA v_lie = v_lie_j) {v_ratio : (Nat → Int32)} {v_ratio_j : (Nat → Int)} (t_v_ratio : mA v_ratio = v_ratio_j) {v_next : (Nat → Int32)} {v_next_j : (Nat → Int)} (t_v_next : mA v_next = v_next_j) {v_plain : (Nat → Int32)} {v_plain_j : (Nat → Int)} (t_v_plain : mA v_plain = v_plain_j) {k53 : (Nat → Int32) → Option R_pM_steps} {k53_j : (Nat → Int) → Option R_iM_steps} (t_k53 : ∀ (q0_ : (Nat → Int32)), tl (mP mI (mP mA (mP mA mA))) (k53_j (mA q0_)) (k53 q0_)) {self : Int32 → (Nat → Int32) → Option R_pM_steps} {self_j : Int → (Nat → Int) → Option R_iM_steps} (t_self : ∀ (q0_ : Int32) (q1_ : (Nat → Int32)), tl (mP mI (mP mA (mP mA mA))) (self_j (mI q0_) (mA q1_)) (self q0_ q1_)) {x2 : Int32} {x2_j : Int} (t_x2 : mI x2 = x2_j) {v_fewest : (Nat → Int32)} {v_fewest_j : (Nat → Int)} (t_v_fewest : mA v_fewest = v_fewest_j) : tl (mP mI (mP mA (mP mA mA))) (iM_steps_b21_F N_j a1_j v_lie_j v_ratio_j v_next_j v_plain_j k53_j self_j x2_j v_fewest_j) (pM_steps_b21_F N a1 v_lie v_ratio v_next v_plain k53 self x2 v_fewest) := by
  subst t_N
  subst t_a1
  subst t_v_lie
  subst t_v_ratio
  subst t_v_next
  subst t_v_plain
  subst t_x2
  subst t_v_fewest
  unfold iM_steps_b21_F pM_steps_b21_F
  refine tl_ite (jc_lt jlitI_600 (Eq.refl (mI x2))) ?_ ?_
  · exact (tl_e1 (Eq.refl (mA v_fewest)) (t_k53 _))
  · refine tl_ite (jc_eq (Eq.refl (mI x2)) jlitI_300) ?_ ?_
    · exact (t_pM_steps_b46 (Eq.refl N) (Eq.refl (mI a1)) (Eq.refl (mA v_lie)) (Eq.refl (mA v_ratio)) t_self t_k53 (Eq.refl (mI x2)) (Eq.refl (mI x2)) jlitI_0 (Eq.refl (mA v_fewest)) (Eq.refl (mA v_next)) (Eq.refl (mA v_plain)))
    · exact (t_pM_steps_b46 (Eq.refl N) (Eq.refl (mI a1)) (Eq.refl (mA v_lie)) (Eq.refl (mA v_ratio)) t_self t_k53 (Eq.refl (mI x2)) (Eq.refl (mI x2)) jlitI_100000000 (Eq.refl (mA v_fewest)) (Eq.refl (mA v_next)) (Eq.refl (mA v_plain)))
theorem t_pM_steps_b21 {N N_j : Nat} (t_N : N = N_j) {a1 : Int32} {a1_j : Int} (t_a1 : mI a1 = a1_j) {v_lie : (Nat → Int32)} {v_lie_j : (Nat → Int)} (t_v_lie : mA v_lie = v_lie_j) {v_ratio : (Nat → Int32)} {v_ratio_j : (Nat → Int)} (t_v_ratio : mA v_ratio = v_ratio_j) {v_next : (Nat → Int32)} {v_next_j : (Nat → Int)} (t_v_next : mA v_next = v_next_j) {v_plain : (Nat → Int32)} {v_plain_j : (Nat → Int)} (t_v_plain : mA v_plain = v_plain_j) {k53 : (Nat → Int32) → Option R_pM_steps} {k53_j : (Nat → Int) → Option R_iM_steps} (t_k53 : ∀ (q0_ : (Nat → Int32)), tl (mP mI (mP mA (mP mA mA))) (k53_j (mA q0_)) (k53 q0_)) {n n_j : Nat} (t_n : n = n_j) {w0_ : Int32} {w0__j : Int} (t_w0_ : mI w0_ = w0__j) {w1_ : (Nat → Int32)} {w1__j : (Nat → Int)} (t_w1_ : mA w1_ = w1__j) : tl (mP mI (mP mA (mP mA mA))) (iM_steps_b21 N_j a1_j v_lie_j v_ratio_j v_next_j v_plain_j k53_j n_j w0__j w1__j) (pM_steps_b21 N a1 v_lie v_ratio v_next v_plain k53 n w0_ w1_) := by
  subst t_N
  subst t_a1
  subst t_v_lie
  subst t_v_ratio
  subst t_v_next
  subst t_v_plain
  subst t_n
  subst t_w0_
  subst t_w1_
  exact tl_zlp2 (fun s2 s hs w0_ w1_ => t_pM_steps_b21_F (Eq.refl N) (Eq.refl (mI a1)) (Eq.refl (mA v_lie)) (Eq.refl (mA v_ratio)) (Eq.refl (mA v_next)) (Eq.refl (mA v_plain)) t_k53 hs (Eq.refl (mI w0_)) (Eq.refl (mA w1_))) n w0_ w1_
theorem t_pM_steps_b63_F {N N_j : Nat} (t_N : N = N_j) {a1 : Int32} {a1_j : Int} (t_a1 : mI a1 = a1_j) {v_lie : (Nat → Int32)} {v_lie_j : (Nat → Int)} (t_v_lie : mA v_lie = v_lie_j) {v_ratio : (Nat → Int32)} {v_ratio_j : (Nat → Int)} (t_v_ratio : mA v_ratio = v_ratio_j) {x2 : Int32} {x2_j : Int} (t_x2 : mI x2 = x2_j) {v_fewest : (Nat → Int32)} {v_fewest_j : (Nat → Int)} (t_v_fewest : mA v_fewest = v_fewest_j) {v_plain : (Nat → Int32)} {v_plain_j : (Nat → Int)} (t_v_plain : mA v_plain = v_plain_j) {k84 : (Nat → Int32) → Option R_pM_steps} {k84_j : (Nat → Int) → Option R_iM_steps} (t_k84 : ∀ (q0_ : (Nat → Int32)), tl (mP mI (mP mA (mP mA mA))) (k84_j (mA q0_)) (k84 q0_)) {self : Int32 → (Nat → Int32) → Option R_pM_steps} {self_j : Int → (Nat → Int) → Option R_iM_steps} (t_self : ∀ (q0_ : Int32) (q1_ : (Nat → Int32)), tl (mP mI (mP mA (mP mA mA))) (self_j (mI q0_) (mA q1_)) (self q0_ q1_)) {x3 : Int32} {x3_j : Int} (t_x3 : mI x3 = x3_j) {v_next : (Nat → Int32)} {v_next_j : (Nat → Int)} (t_v_next : mA v_next = v_next_j) : tl (mP mI (mP mA (mP mA mA))) (iM_steps_b63_F N_j a1_j v_lie_j v_ratio_j x2_j v_fewest_j v_plain_j k84_j self_j x3_j v_next_j) (pM_steps_b63_F N a1 v_lie v_ratio x2 v_fewest v_plain k84 self x3 v_next) := by
  subst t_N
  subst t_a1
  subst t_v_lie
  subst t_v_ratio
  subst t_x2
  subst t_v_fewest
  subst t_v_plain
  subst t_x3
  subst t_v_next
  unfold iM_steps_b63_F pM_steps_b63_F
  refine tl_ite (jc_lt jlitI_600 (Eq.refl (mI x3))) ?_ ?_
  · exact (tl_e1 (Eq.refl (mA v_next)) (t_k84 _))
  · refine tl_gd (jg_ib (Eq.refl (mI x3))) (fun _ => ?_)
    refine tl_g (fun h1 => ?_)
    exact (tl_e2 (ja_add (Eq.refl (mI x3)) jlitI_1 h1) (jupA (Eq.refl (mA v_next)) (jx (Eq.refl (mI x3))) jlitI_100000000) (t_self _ _))
theorem t_pM_steps_b63 {N N_j : Nat} (t_N : N = N_j) {a1 : Int32} {a1_j : Int} (t_a1 : mI a1 = a1_j) {v_lie : (Nat → Int32)} {v_lie_j : (Nat → Int)} (t_v_lie : mA v_lie = v_lie_j) {v_ratio : (Nat → Int32)} {v_ratio_j : (Nat → Int)} (t_v_ratio : mA v_ratio = v_ratio_j) {x2 : Int32} {x2_j : Int} (t_x2 : mI x2 = x2_j) {v_fewest : (Nat → Int32)} {v_fewest_j : (Nat → Int)} (t_v_fewest : mA v_fewest = v_fewest_j) {v_plain : (Nat → Int32)} {v_plain_j : (Nat → Int)} (t_v_plain : mA v_plain = v_plain_j) {k84 : (Nat → Int32) → Option R_pM_steps} {k84_j : (Nat → Int) → Option R_iM_steps} (t_k84 : ∀ (q0_ : (Nat → Int32)), tl (mP mI (mP mA (mP mA mA))) (k84_j (mA q0_)) (k84 q0_)) {n n_j : Nat} (t_n : n = n_j) {w0_ : Int32} {w0__j : Int} (t_w0_ : mI w0_ = w0__j) {w1_ : (Nat → Int32)} {w1__j : (Nat → Int)} (t_w1_ : mA w1_ = w1__j) : tl (mP mI (mP mA (mP mA mA))) (iM_steps_b63 N_j a1_j v_lie_j v_ratio_j x2_j v_fewest_j v_plain_j k84_j n_j w0__j w1__j) (pM_steps_b63 N a1 v_lie v_ratio x2 v_fewest v_plain k84 n w0_ w1_) := by
  subst t_N
  subst t_a1
  subst t_v_lie
  subst t_v_ratio
  subst t_x2
  subst t_v_fewest
  subst t_v_plain
  subst t_n
  subst t_w0_
  subst t_w1_
  exact tl_zlp2 (fun s2 s hs w0_ w1_ => t_pM_steps_b63_F (Eq.refl N) (Eq.refl (mI a1)) (Eq.refl (mA v_lie)) (Eq.refl (mA v_ratio)) (Eq.refl (mI x2)) (Eq.refl (mA v_fewest)) (Eq.refl (mA v_plain)) t_k84 hs (Eq.refl (mI w0_)) (Eq.refl (mA w1_))) n w0_ w1_
theorem t_pM_steps_b206 {N N_j : Nat} (t_N : N = N_j) {a1 : Int32} {a1_j : Int} (t_a1 : mI a1 = a1_j) {v_lie : (Nat → Int32)} {v_lie_j : (Nat → Int)} (t_v_lie : mA v_lie = v_lie_j) {v_ratio : (Nat → Int32)} {v_ratio_j : (Nat → Int)} (t_v_ratio : mA v_ratio = v_ratio_j) {self : Int32 → (Nat → Int32) → Option R_pM_steps} {self_j : Int → (Nat → Int) → Option R_iM_steps} (t_self : ∀ (q0_ : Int32) (q1_ : (Nat → Int32)), tl (mP mI (mP mA (mP mA mA))) (self_j (mI q0_) (mA q1_)) (self q0_ q1_)) {k212 : (Nat → Int32) → Option R_pM_steps} {k212_j : (Nat → Int) → Option R_iM_steps} (t_k212 : ∀ (q0_ : (Nat → Int32)), tl (mP mI (mP mA (mP mA mA))) (k212_j (mA q0_)) (k212 q0_)) {x2 : Int32} {x2_j : Int} (t_x2 : mI x2 = x2_j) {x3 : Int32} {x3_j : Int} (t_x3 : mI x3 = x3_j) {v_fewest : (Nat → Int32)} {v_fewest_j : (Nat → Int)} (t_v_fewest : mA v_fewest = v_fewest_j) {v_next : (Nat → Int32)} {v_next_j : (Nat → Int)} (t_v_next : mA v_next = v_next_j) {v_plain : (Nat → Int32)} {v_plain_j : (Nat → Int)} (t_v_plain : mA v_plain = v_plain_j) : tl (mP mI (mP mA (mP mA mA))) (iM_steps_b206 N_j a1_j v_lie_j v_ratio_j self_j k212_j x2_j x3_j v_fewest_j v_next_j v_plain_j) (pM_steps_b206 N a1 v_lie v_ratio self k212 x2 x3 v_fewest v_next v_plain) := by
  subst t_N
  subst t_a1
  subst t_v_lie
  subst t_v_ratio
  subst t_x2
  subst t_x3
  subst t_v_fewest
  subst t_v_next
  subst t_v_plain
  unfold iM_steps_b206 pM_steps_b206
  refine tl_g (fun h1 => ?_)
  exact (tl_e2 (ja_add (Eq.refl (mI x3)) jlitI_1 h1) (Eq.refl (mA v_next)) (t_self _ _))
theorem t_pM_steps_b133_F {N N_j : Nat} (t_N : N = N_j) {a1 : Int32} {a1_j : Int} (t_a1 : mI a1 = a1_j) {v_lie : (Nat → Int32)} {v_lie_j : (Nat → Int)} (t_v_lie : mA v_lie = v_lie_j) {v_ratio : (Nat → Int32)} {v_ratio_j : (Nat → Int)} (t_v_ratio : mA v_ratio = v_ratio_j) {x2 : Int32} {x2_j : Int} (t_x2 : mI x2 = x2_j) {x3 : Int32} {x3_j : Int} (t_x3 : mI x3 = x3_j) {x4 : Int32} {x4_j : Int} (t_x4 : mI x4 = x4_j) {v_fewest : (Nat → Int32)} {v_fewest_j : (Nat → Int)} (t_v_fewest : mA v_fewest = v_fewest_j) {v_plain : (Nat → Int32)} {v_plain_j : (Nat → Int)} (t_v_plain : mA v_plain = v_plain_j) {k206 : (Nat → Int32) → Option R_pM_steps} {k206_j : (Nat → Int) → Option R_iM_steps} (t_k206 : ∀ (q0_ : (Nat → Int32)), tl (mP mI (mP mA (mP mA mA))) (k206_j (mA q0_)) (k206 q0_)) {self : Int32 → (Nat → Int32) → Option R_pM_steps} {self_j : Int → (Nat → Int) → Option R_iM_steps} (t_self : ∀ (q0_ : Int32) (q1_ : (Nat → Int32)), tl (mP mI (mP mA (mP mA mA))) (self_j (mI q0_) (mA q1_)) (self q0_ q1_)) {x5 : Int32} {x5_j : Int} (t_x5 : mI x5 = x5_j) {v_next : (Nat → Int32)} {v_next_j : (Nat → Int)} (t_v_next : mA v_next = v_next_j) : tl (mP mI (mP mA (mP mA mA))) (iM_steps_b133_F N_j a1_j v_lie_j v_ratio_j x2_j x3_j x4_j v_fewest_j v_plain_j k206_j self_j x5_j v_next_j) (pM_steps_b133_F N a1 v_lie v_ratio x2 x3 x4 v_fewest v_plain k206 self x5 v_next) := by
  subst t_N
  subst t_a1
  subst t_v_lie
  subst t_v_ratio
  subst t_x2
  subst t_x3
  subst t_x4
  subst t_v_fewest
  subst t_v_plain
  subst t_x5
  subst t_v_next
  unfold iM_steps_b133_F pM_steps_b133_F
  refine tl_ite (jc_lt jlitI_300 (Eq.refl (mI x5))) ?_ ?_
  · exact (tl_e1 (Eq.refl (mA v_next)) (t_k206 _))
  · refine tl_gd (jg_ib (Eq.refl (mI x3))) (fun _ => ?_)
    refine tl_bd1 (t_pM_size (Eq.refl (mI x5))) (fun rc10 => ?_)
    refine tl_gd (jg_ib (Eq.refl (mI x2))) (fun _ => ?_)
    refine tl_g (fun h1 => ?_)
    refine tl_g (fun h2 => ?_)
    refine tl_bd1 (t_pM_size (ja_sub (Eq.refl (mI x4)) (ja_mul (jrd (Eq.refl (mA v_ratio)) (jx (Eq.refl (mI x2)))) (Eq.refl (mI x5)) h1) h2)) (fun rc12 => ?_)
    refine tl_g (fun h3 => ?_)
    refine tl_gd (jg_ib (ja_add (Eq.refl (mI x5)) jlitI_300 h3)) (fun _ => ?_)
    refine tl_g (fun h4 => ?_)
    refine tl_g (fun h5 => ?_)
    refine tl_ite (jc_le (jrd (Eq.refl (mA v_next)) (jx (ja_add (Eq.refl (mI x5)) jlitI_300 h3))) (ja_add (ja_add (jrd (Eq.refl (mA v_fewest)) (jx (Eq.refl (mI x3)))) (Eq.refl (mI rc10)) h4) (Eq.refl (mI rc12)) h5)) ?_ ?_
    · refine tl_g (fun h6 => ?_)
      exact (tl_e2 (ja_add (Eq.refl (mI x5)) jlitI_1 h6) (Eq.refl (mA v_next)) (t_self _ _))
    · refine tl_g (fun h7 => ?_)
      exact (tl_e2 (ja_add (Eq.refl (mI x5)) jlitI_1 h7) (jupA (Eq.refl (mA v_next)) (jx (ja_add (Eq.refl (mI x5)) jlitI_300 h3)) (ja_add (ja_add (jrd (Eq.refl (mA v_fewest)) (jx (Eq.refl (mI x3)))) (Eq.refl (mI rc10)) h4) (Eq.refl (mI rc12)) h5)) (t_self _ _))
theorem t_pM_steps_b133 {N N_j : Nat} (t_N : N = N_j) {a1 : Int32} {a1_j : Int} (t_a1 : mI a1 = a1_j) {v_lie : (Nat → Int32)} {v_lie_j : (Nat → Int)} (t_v_lie : mA v_lie = v_lie_j) {v_ratio : (Nat → Int32)} {v_ratio_j : (Nat → Int)} (t_v_ratio : mA v_ratio = v_ratio_j) {x2 : Int32} {x2_j : Int} (t_x2 : mI x2 = x2_j) {x3 : Int32} {x3_j : Int} (t_x3 : mI x3 = x3_j) {x4 : Int32} {x4_j : Int} (t_x4 : mI x4 = x4_j) {v_fewest : (Nat → Int32)} {v_fewest_j : (Nat → Int)} (t_v_fewest : mA v_fewest = v_fewest_j) {v_plain : (Nat → Int32)} {v_plain_j : (Nat → Int)} (t_v_plain : mA v_plain = v_plain_j) {k206 : (Nat → Int32) → Option R_pM_steps} {k206_j : (Nat → Int) → Option R_iM_steps} (t_k206 : ∀ (q0_ : (Nat → Int32)), tl (mP mI (mP mA (mP mA mA))) (k206_j (mA q0_)) (k206 q0_)) {n n_j : Nat} (t_n : n = n_j) {w0_ : Int32} {w0__j : Int} (t_w0_ : mI w0_ = w0__j) {w1_ : (Nat → Int32)} {w1__j : (Nat → Int)} (t_w1_ : mA w1_ = w1__j) : tl (mP mI (mP mA (mP mA mA))) (iM_steps_b133 N_j a1_j v_lie_j v_ratio_j x2_j x3_j x4_j v_fewest_j v_plain_j k206_j n_j w0__j w1__j) (pM_steps_b133 N a1 v_lie v_ratio x2 x3 x4 v_fewest v_plain k206 n w0_ w1_) := by
  subst t_N
  subst t_a1
  subst t_v_lie
  subst t_v_ratio
  subst t_x2
  subst t_x3
  subst t_x4
  subst t_v_fewest
  subst t_v_plain
  subst t_n
  subst t_w0_
  subst t_w1_
  exact tl_zlp2 (fun s2 s hs w0_ w1_ => t_pM_steps_b133_F (Eq.refl N) (Eq.refl (mI a1)) (Eq.refl (mA v_lie)) (Eq.refl (mA v_ratio)) (Eq.refl (mI x2)) (Eq.refl (mI x3)) (Eq.refl (mI x4)) (Eq.refl (mA v_fewest)) (Eq.refl (mA v_plain)) t_k206 hs (Eq.refl (mI w0_)) (Eq.refl (mA w1_))) n w0_ w1_
theorem t_pM_steps_b86_F {N N_j : Nat} (t_N : N = N_j) {a1 : Int32} {a1_j : Int} (t_a1 : mI a1 = a1_j) {v_lie : (Nat → Int32)} {v_lie_j : (Nat → Int)} (t_v_lie : mA v_lie = v_lie_j) {v_ratio : (Nat → Int32)} {v_ratio_j : (Nat → Int)} (t_v_ratio : mA v_ratio = v_ratio_j) {x2 : Int32} {x2_j : Int} (t_x2 : mI x2 = x2_j) {v_fewest : (Nat → Int32)} {v_fewest_j : (Nat → Int)} (t_v_fewest : mA v_fewest = v_fewest_j) {v_plain : (Nat → Int32)} {v_plain_j : (Nat → Int)} (t_v_plain : mA v_plain = v_plain_j) {k212 : (Nat → Int32) → Option R_pM_steps} {k212_j : (Nat → Int) → Option R_iM_steps} (t_k212 : ∀ (q0_ : (Nat → Int32)), tl (mP mI (mP mA (mP mA mA))) (k212_j (mA q0_)) (k212 q0_)) {self : Int32 → (Nat → Int32) → Option R_pM_steps} {self_j : Int → (Nat → Int) → Option R_iM_steps} (t_self : ∀ (q0_ : Int32) (q1_ : (Nat → Int32)), tl (mP mI (mP mA (mP mA mA))) (self_j (mI q0_) (mA q1_)) (self q0_ q1_)) {x3 : Int32} {x3_j : Int} (t_x3 : mI x3 = x3_j) {v_next : (Nat → Int32)} {v_next_j : (Nat → Int)} (t_v_next : mA v_next = v_next_j) : tl (mP mI (mP mA (mP mA mA))) (iM_steps_b86_F N_j a1_j v_lie_j v_ratio_j x2_j v_fewest_j v_plain_j k212_j self_j x3_j v_next_j) (pM_steps_b86_F N a1 v_lie v_ratio x2 v_fewest v_plain k212 self x3 v_next) := by
  subst t_N
  subst t_a1
  subst t_v_lie
  subst t_v_ratio
  subst t_x2
  subst t_v_fewest
  subst t_v_plain
  subst t_x3
  subst t_v_next
  unfold iM_steps_b86_F pM_steps_b86_F
  refine tl_ite (jc_lt jlitI_600 (Eq.refl (mI x3))) ?_ ?_
  · exact (tl_e1 (Eq.refl (mA v_next)) (t_k212 _))
  · refine tl_gd (jg_ib (Eq.refl (mI x3))) (fun _ => ?_)
    refine tl_ite (jc_eq (jrd (Eq.refl (mA v_fewest)) (jx (Eq.refl (mI x3)))) jlitI_100000000) ?_ ?_
    · exact (t_pM_steps_b206 (Eq.refl N) (Eq.refl (mI a1)) (Eq.refl (mA v_lie)) (Eq.refl (mA v_ratio)) t_self t_k212 (Eq.refl (mI x2)) (Eq.refl (mI x3)) (Eq.refl (mA v_fewest)) (Eq.refl (mA v_next)) (Eq.refl (mA v_plain)))
    · refine tl_gd (jg_ib (Eq.refl (mI x2))) (fun _ => ?_)
      refine tl_g (fun h1 => ?_)
      refine tl_g (fun h2 => ?_)
      refine tl_g (fun h3 => ?_)
      exact (t_pM_steps_b133 (Eq.refl N) (Eq.refl (mI a1)) (Eq.refl (mA v_lie)) (Eq.refl (mA v_ratio)) (Eq.refl (mI x2)) (Eq.refl (mI x3)) (ja_sub (ja_sub (ja_add (jrd (Eq.refl (mA v_lie)) (jx (Eq.refl (mI x2)))) (Eq.refl (mI x3)) h1) jlitI_300 h2) (jrd (Eq.refl (mA v_plain)) (jx (Eq.refl (mI x2)))) h3) (Eq.refl (mA v_fewest)) (Eq.refl (mA v_plain)) (fun v_next_k3 => by exact (t_pM_steps_b206 (Eq.refl N) (Eq.refl (mI a1)) (Eq.refl (mA v_lie)) (Eq.refl (mA v_ratio)) t_self t_k212 (Eq.refl (mI x2)) (Eq.refl (mI x3)) (Eq.refl (mA v_fewest)) (Eq.refl (mA v_next_k3)) (Eq.refl (mA v_plain)))) (Eq.refl N) jlitI_m300 (Eq.refl (mA v_next)))
theorem t_pM_steps_b86 {N N_j : Nat} (t_N : N = N_j) {a1 : Int32} {a1_j : Int} (t_a1 : mI a1 = a1_j) {v_lie : (Nat → Int32)} {v_lie_j : (Nat → Int)} (t_v_lie : mA v_lie = v_lie_j) {v_ratio : (Nat → Int32)} {v_ratio_j : (Nat → Int)} (t_v_ratio : mA v_ratio = v_ratio_j) {x2 : Int32} {x2_j : Int} (t_x2 : mI x2 = x2_j) {v_fewest : (Nat → Int32)} {v_fewest_j : (Nat → Int)} (t_v_fewest : mA v_fewest = v_fewest_j) {v_plain : (Nat → Int32)} {v_plain_j : (Nat → Int)} (t_v_plain : mA v_plain = v_plain_j) {k212 : (Nat → Int32) → Option R_pM_steps} {k212_j : (Nat → Int) → Option R_iM_steps} (t_k212 : ∀ (q0_ : (Nat → Int32)), tl (mP mI (mP mA (mP mA mA))) (k212_j (mA q0_)) (k212 q0_)) {n n_j : Nat} (t_n : n = n_j) {w0_ : Int32} {w0__j : Int} (t_w0_ : mI w0_ = w0__j) {w1_ : (Nat → Int32)} {w1__j : (Nat → Int)} (t_w1_ : mA w1_ = w1__j) : tl (mP mI (mP mA (mP mA mA))) (iM_steps_b86 N_j a1_j v_lie_j v_ratio_j x2_j v_fewest_j v_plain_j k212_j n_j w0__j w1__j) (pM_steps_b86 N a1 v_lie v_ratio x2 v_fewest v_plain k212 n w0_ w1_) := by
  subst t_N
  subst t_a1
  subst t_v_lie
  subst t_v_ratio
  subst t_x2
  subst t_v_fewest
  subst t_v_plain
  subst t_n
  subst t_w0_
  subst t_w1_
  exact tl_zlp2 (fun s2 s hs w0_ w1_ => t_pM_steps_b86_F (Eq.refl N) (Eq.refl (mI a1)) (Eq.refl (mA v_lie)) (Eq.refl (mA v_ratio)) (Eq.refl (mI x2)) (Eq.refl (mA v_fewest)) (Eq.refl (mA v_plain)) t_k212 hs (Eq.refl (mI w0_)) (Eq.refl (mA w1_))) n w0_ w1_
theorem t_pM_steps_b214_F {N N_j : Nat} (t_N : N = N_j) {a1 : Int32} {a1_j : Int} (t_a1 : mI a1 = a1_j) {v_lie : (Nat → Int32)} {v_lie_j : (Nat → Int)} (t_v_lie : mA v_lie = v_lie_j) {v_ratio : (Nat → Int32)} {v_ratio_j : (Nat → Int)} (t_v_ratio : mA v_ratio = v_ratio_j) {x2 : Int32} {x2_j : Int} (t_x2 : mI x2 = x2_j) {v_next : (Nat → Int32)} {v_next_j : (Nat → Int)} (t_v_next : mA v_next = v_next_j) {v_plain : (Nat → Int32)} {v_plain_j : (Nat → Int)} (t_v_plain : mA v_plain = v_plain_j) {k239 : (Nat → Int32) → Option R_pM_steps} {k239_j : (Nat → Int) → Option R_iM_steps} (t_k239 : ∀ (q0_ : (Nat → Int32)), tl (mP mI (mP mA (mP mA mA))) (k239_j (mA q0_)) (k239 q0_)) {self : Int32 → (Nat → Int32) → Option R_pM_steps} {self_j : Int → (Nat → Int) → Option R_iM_steps} (t_self : ∀ (q0_ : Int32) (q1_ : (Nat → Int32)), tl (mP mI (mP mA (mP mA mA))) (self_j (mI q0_) (mA q1_)) (self q0_ q1_)) {x3 : Int32} {x3_j : Int} (t_x3 : mI x3 = x3_j) {v_fewest : (Nat → Int32)} {v_fewest_j : (Nat → Int)} (t_v_fewest : mA v_fewest = v_fewest_j) : tl (mP mI (mP mA (mP mA mA))) (iM_steps_b214_F N_j a1_j v_lie_j v_ratio_j x2_j v_next_j v_plain_j k239_j self_j x3_j v_fewest_j) (pM_steps_b214_F N a1 v_lie v_ratio x2 v_next v_plain k239 self x3 v_fewest) := by
  subst t_N
  subst t_a1
  subst t_v_lie
  subst t_v_ratio
  subst t_x2
  subst t_v_next
  subst t_v_plain
  subst t_x3
  subst t_v_fewest
  unfold iM_steps_b214_F pM_steps_b214_F
  refine tl_ite (jc_lt jlitI_600 (Eq.refl (mI x3))) ?_ ?_
  · exact (tl_e1 (Eq.refl (mA v_fewest)) (t_k239 _))
  · refine tl_gd (jg_ib (Eq.refl (mI x3))) (fun _ => ?_)
    refine tl_g (fun h1 => ?_)
    exact (tl_e2 (ja_add (Eq.refl (mI x3)) jlitI_1 h1) (jupA (Eq.refl (mA v_fewest)) (jx (Eq.refl (mI x3))) (jrd (Eq.refl (mA v_next)) (jx (Eq.refl (mI x3))))) (t_self _ _))
theorem t_pM_steps_b214 {N N_j : Nat} (t_N : N = N_j) {a1 : Int32} {a1_j : Int} (t_a1 : mI a1 = a1_j) {v_lie : (Nat → Int32)} {v_lie_j : (Nat → Int)} (t_v_lie : mA v_lie = v_lie_j) {v_ratio : (Nat → Int32)} {v_ratio_j : (Nat → Int)} (t_v_ratio : mA v_ratio = v_ratio_j) {x2 : Int32} {x2_j : Int} (t_x2 : mI x2 = x2_j) {v_next : (Nat → Int32)} {v_next_j : (Nat → Int)} (t_v_next : mA v_next = v_next_j) {v_plain : (Nat → Int32)} {v_plain_j : (Nat → Int)} (t_v_plain : mA v_plain = v_plain_j) {k239 : (Nat → Int32) → Option R_pM_steps} {k239_j : (Nat → Int) → Option R_iM_steps} (t_k239 : ∀ (q0_ : (Nat → Int32)), tl (mP mI (mP mA (mP mA mA))) (k239_j (mA q0_)) (k239 q0_)) {n n_j : Nat} (t_n : n = n_j) {w0_ : Int32} {w0__j : Int} (t_w0_ : mI w0_ = w0__j) {w1_ : (Nat → Int32)} {w1__j : (Nat → Int)} (t_w1_ : mA w1_ = w1__j) : tl (mP mI (mP mA (mP mA mA))) (iM_steps_b214 N_j a1_j v_lie_j v_ratio_j x2_j v_next_j v_plain_j k239_j n_j w0__j w1__j) (pM_steps_b214 N a1 v_lie v_ratio x2 v_next v_plain k239 n w0_ w1_) := by
  subst t_N
  subst t_a1
  subst t_v_lie
  subst t_v_ratio
  subst t_x2
  subst t_v_next
  subst t_v_plain
  subst t_n
  subst t_w0_
  subst t_w1_
  exact tl_zlp2 (fun s2 s hs w0_ w1_ => t_pM_steps_b214_F (Eq.refl N) (Eq.refl (mI a1)) (Eq.refl (mA v_lie)) (Eq.refl (mA v_ratio)) (Eq.refl (mI x2)) (Eq.refl (mA v_next)) (Eq.refl (mA v_plain)) t_k239 hs (Eq.refl (mI w0_)) (Eq.refl (mA w1_))) n w0_ w1_
theorem t_pM_steps_b239 {N N_j : Nat} (t_N : N = N_j) {a1 : Int32} {a1_j : Int} (t_a1 : mI a1 = a1_j) {v_lie : (Nat → Int32)} {v_lie_j : (Nat → Int)} (t_v_lie : mA v_lie = v_lie_j) {v_ratio : (Nat → Int32)} {v_ratio_j : (Nat → Int)} (t_v_ratio : mA v_ratio = v_ratio_j) {self : Int32 → (Nat → Int32) → (Nat → Int32) → Option R_pM_steps} {self_j : Int → (Nat → Int) → (Nat → Int) → Option R_iM_steps} (t_self : ∀ (q0_ : Int32) (q1_ : (Nat → Int32)) (q2_ : (Nat → Int32)), tl (mP mI (mP mA (mP mA mA))) (self_j (mI q0_) (mA q1_) (mA q2_)) (self q0_ q1_ q2_)) {k245 : (Nat → Int32) → (Nat → Int32) → Option R_pM_steps} {k245_j : (Nat → Int) → (Nat → Int) → Option R_iM_steps} (t_k245 : ∀ (q0_ : (Nat → Int32)) (q1_ : (Nat → Int32)), tl (mP mI (mP mA (mP mA mA))) (k245_j (mA q0_) (mA q1_)) (k245 q0_ q1_)) {x2 : Int32} {x2_j : Int} (t_x2 : mI x2 = x2_j) {v_fewest : (Nat → Int32)} {v_fewest_j : (Nat → Int)} (t_v_fewest : mA v_fewest = v_fewest_j) {v_next : (Nat → Int32)} {v_next_j : (Nat → Int)} (t_v_next : mA v_next = v_next_j) {v_plain : (Nat → Int32)} {v_plain_j : (Nat → Int)} (t_v_plain : mA v_plain = v_plain_j) : tl (mP mI (mP mA (mP mA mA))) (iM_steps_b239 N_j a1_j v_lie_j v_ratio_j self_j k245_j x2_j v_fewest_j v_next_j v_plain_j) (pM_steps_b239 N a1 v_lie v_ratio self k245 x2 v_fewest v_next v_plain) := by
  subst t_N
  subst t_a1
  subst t_v_lie
  subst t_v_ratio
  subst t_x2
  subst t_v_fewest
  subst t_v_next
  subst t_v_plain
  unfold iM_steps_b239 pM_steps_b239
  refine tl_g (fun h1 => ?_)
  exact (tl_e3 (ja_add (Eq.refl (mI x2)) jlitI_1 h1) (Eq.refl (mA v_fewest)) (Eq.refl (mA v_next)) (t_self _ _ _))
theorem t_pM_steps_b212 {N N_j : Nat} (t_N : N = N_j) {a1 : Int32} {a1_j : Int} (t_a1 : mI a1 = a1_j) {v_lie : (Nat → Int32)} {v_lie_j : (Nat → Int)} (t_v_lie : mA v_lie = v_lie_j) {v_ratio : (Nat → Int32)} {v_ratio_j : (Nat → Int)} (t_v_ratio : mA v_ratio = v_ratio_j) {self : Int32 → (Nat → Int32) → (Nat → Int32) → Option R_pM_steps} {self_j : Int → (Nat → Int) → (Nat → Int) → Option R_iM_steps} (t_self : ∀ (q0_ : Int32) (q1_ : (Nat → Int32)) (q2_ : (Nat → Int32)), tl (mP mI (mP mA (mP mA mA))) (self_j (mI q0_) (mA q1_) (mA q2_)) (self q0_ q1_ q2_)) {k245 : (Nat → Int32) → (Nat → Int32) → Option R_pM_steps} {k245_j : (Nat → Int) → (Nat → Int) → Option R_iM_steps} (t_k245 : ∀ (q0_ : (Nat → Int32)) (q1_ : (Nat → Int32)), tl (mP mI (mP mA (mP mA mA))) (k245_j (mA q0_) (mA q1_)) (k245 q0_ q1_)) {x2 : Int32} {x2_j : Int} (t_x2 : mI x2 = x2_j) {v_fewest : (Nat → Int32)} {v_fewest_j : (Nat → Int)} (t_v_fewest : mA v_fewest = v_fewest_j) {v_next : (Nat → Int32)} {v_next_j : (Nat → Int)} (t_v_next : mA v_next = v_next_j) {v_plain : (Nat → Int32)} {v_plain_j : (Nat → Int)} (t_v_plain : mA v_plain = v_plain_j) : tl (mP mI (mP mA (mP mA mA))) (iM_steps_b212 N_j a1_j v_lie_j v_ratio_j self_j k245_j x2_j v_fewest_j v_next_j v_plain_j) (pM_steps_b212 N a1 v_lie v_ratio self k245 x2 v_fewest v_next v_plain) := by
  subst t_N
  subst t_a1
  subst t_v_lie
  subst t_v_ratio
  subst t_x2
  subst t_v_fewest
  subst t_v_next
  subst t_v_plain
  unfold iM_steps_b212 pM_steps_b212
  exact (t_pM_steps_b214 (Eq.refl N) (Eq.refl (mI a1)) (Eq.refl (mA v_lie)) (Eq.refl (mA v_ratio)) (Eq.refl (mI x2)) (Eq.refl (mA v_next)) (Eq.refl (mA v_plain)) (fun v_fewest_k5 => by exact (t_pM_steps_b239 (Eq.refl N) (Eq.refl (mI a1)) (Eq.refl (mA v_lie)) (Eq.refl (mA v_ratio)) t_self t_k245 (Eq.refl (mI x2)) (Eq.refl (mA v_fewest_k5)) (Eq.refl (mA v_next)) (Eq.refl (mA v_plain)))) (Eq.refl N) jlitI_0 (Eq.refl (mA v_fewest)))
theorem t_pM_steps_b84 {N N_j : Nat} (t_N : N = N_j) {a1 : Int32} {a1_j : Int} (t_a1 : mI a1 = a1_j) {v_lie : (Nat → Int32)} {v_lie_j : (Nat → Int)} (t_v_lie : mA v_lie = v_lie_j) {v_ratio : (Nat → Int32)} {v_ratio_j : (Nat → Int)} (t_v_ratio : mA v_ratio = v_ratio_j) {self : Int32 → (Nat → Int32) → (Nat → Int32) → Option R_pM_steps} {self_j : Int → (Nat → Int) → (Nat → Int) → Option R_iM_steps} (t_self : ∀ (q0_ : Int32) (q1_ : (Nat → Int32)) (q2_ : (Nat → Int32)), tl (mP mI (mP mA (mP mA mA))) (self_j (mI q0_) (mA q1_) (mA q2_)) (self q0_ q1_ q2_)) {k245 : (Nat → Int32) → (Nat → Int32) → Option R_pM_steps} {k245_j : (Nat → Int) → (Nat → Int) → Option R_iM_steps} (t_k245 : ∀ (q0_ : (Nat → Int32)) (q1_ : (Nat → Int32)), tl (mP mI (mP mA (mP mA mA))) (k245_j (mA q0_) (mA q1_)) (k245 q0_ q1_)) {x2 : Int32} {x2_j : Int} (t_x2 : mI x2 = x2_j) {v_fewest : (Nat → Int32)} {v_fewest_j : (Nat → Int)} (t_v_fewest : mA v_fewest = v_fewest_j) {v_next : (Nat → Int32)} {v_next_j : (Nat → Int)} (t_v_next : mA v_next = v_next_j) {v_plain : (Nat → Int32)} {v_plain_j : (Nat → Int)} (t_v_plain : mA v_plain = v_plain_j) : tl (mP mI (mP mA (mP mA mA))) (iM_steps_b84 N_j a1_j v_lie_j v_ratio_j self_j k245_j x2_j v_fewest_j v_next_j v_plain_j) (pM_steps_b84 N a1 v_lie v_ratio self k245 x2 v_fewest v_next v_plain) := by
  subst t_N
  subst t_a1
  subst t_v_lie
  subst t_v_ratio
  subst t_x2
  subst t_v_fewest
  subst t_v_next
  subst t_v_plain
  unfold iM_steps_b84 pM_steps_b84
  exact (t_pM_steps_b86 (Eq.refl N) (Eq.refl (mI a1)) (Eq.refl (mA v_lie)) (Eq.refl (mA v_ratio)) (Eq.refl (mI x2)) (Eq.refl (mA v_fewest)) (Eq.refl (mA v_plain)) (fun v_next_k4 => by exact (t_pM_steps_b212 (Eq.refl N) (Eq.refl (mI a1)) (Eq.refl (mA v_lie)) (Eq.refl (mA v_ratio)) t_self t_k245 (Eq.refl (mI x2)) (Eq.refl (mA v_fewest)) (Eq.refl (mA v_next_k4)) (Eq.refl (mA v_plain)))) (Eq.refl N) jlitI_0 (Eq.refl (mA v_next)))
theorem t_pM_steps_b55_F {N N_j : Nat} (t_N : N = N_j) {a1 : Int32} {a1_j : Int} (t_a1 : mI a1 = a1_j) {v_lie : (Nat → Int32)} {v_lie_j : (Nat → Int)} (t_v_lie : mA v_lie = v_lie_j) {v_ratio : (Nat → Int32)} {v_ratio_j : (Nat → Int)} (t_v_ratio : mA v_ratio = v_ratio_j) {v_plain : (Nat → Int32)} {v_plain_j : (Nat → Int)} (t_v_plain : mA v_plain = v_plain_j) {k245 : (Nat → Int32) → (Nat → Int32) → Option R_pM_steps} {k245_j : (Nat → Int) → (Nat → Int) → Option R_iM_steps} (t_k245 : ∀ (q0_ : (Nat → Int32)) (q1_ : (Nat → Int32)), tl (mP mI (mP mA (mP mA mA))) (k245_j (mA q0_) (mA q1_)) (k245 q0_ q1_)) {self : Int32 → (Nat → Int32) → (Nat → Int32) → Option R_pM_steps} {self_j : Int → (Nat → Int) → (Nat → Int) → Option R_iM_steps} (t_self : ∀ (q0_ : Int32) (q1_ : (Nat → Int32)) (q2_ : (Nat → Int32)), tl (mP mI (mP mA (mP mA mA))) (self_j (mI q0_) (mA q1_) (mA q2_)) (self q0_ q1_ q2_)) {x2 : Int32} {x2_j : Int} (t_x2 : mI x2 = x2_j) {v_fewest : (Nat → Int32)} {v_fewest_j : (Nat → Int)} (t_v_fewest : mA v_fewest = v_fewest_j) {v_next : (Nat → Int32)} {v_next_j : (Nat → Int)} (t_v_next : mA v_next = v_next_j) : tl (mP mI (mP mA (mP mA mA))) (iM_steps_b55_F N_j a1_j v_lie_j v_ratio_j v_plain_j k245_j self_j x2_j v_fewest_j v_next_j) (pM_steps_b55_F N a1 v_lie v_ratio v_plain k245 self x2 v_fewest v_next) := by
  subst t_N
  subst t_a1
  subst t_v_lie
  subst t_v_ratio
  subst t_v_plain
  subst t_x2
  subst t_v_fewest
  subst t_v_next
  unfold iM_steps_b55_F pM_steps_b55_F
  refine tl_ite (jc_le jlitI_12 (Eq.refl (mI x2))) ?_ ?_
  · exact (tl_e2 (Eq.refl (mA v_fewest)) (Eq.refl (mA v_next)) (t_k245 _ _))
  · exact (t_pM_steps_b63 (Eq.refl N) (Eq.refl (mI a1)) (Eq.refl (mA v_lie)) (Eq.refl (mA v_ratio)) (Eq.refl (mI x2)) (Eq.refl (mA v_fewest)) (Eq.refl (mA v_plain)) (fun v_next_k2 => by exact (t_pM_steps_b84 (Eq.refl N) (Eq.refl (mI a1)) (Eq.refl (mA v_lie)) (Eq.refl (mA v_ratio)) t_self t_k245 (Eq.refl (mI x2)) (Eq.refl (mA v_fewest)) (Eq.refl (mA v_next_k2)) (Eq.refl (mA v_plain)))) (Eq.refl N) jlitI_0 (Eq.refl (mA v_next)))
theorem t_pM_steps_b55 {N N_j : Nat} (t_N : N = N_j) {a1 : Int32} {a1_j : Int} (t_a1 : mI a1 = a1_j) {v_lie : (Nat → Int32)} {v_lie_j : (Nat → Int)} (t_v_lie : mA v_lie = v_lie_j) {v_ratio : (Nat → Int32)} {v_ratio_j : (Nat → Int)} (t_v_ratio : mA v_ratio = v_ratio_j) {v_plain : (Nat → Int32)} {v_plain_j : (Nat → Int)} (t_v_plain : mA v_plain = v_plain_j) {k245 : (Nat → Int32) → (Nat → Int32) → Option R_pM_steps} {k245_j : (Nat → Int) → (Nat → Int) → Option R_iM_steps} (t_k245 : ∀ (q0_ : (Nat → Int32)) (q1_ : (Nat → Int32)), tl (mP mI (mP mA (mP mA mA))) (k245_j (mA q0_) (mA q1_)) (k245 q0_ q1_)) {n n_j : Nat} (t_n : n = n_j) {w0_ : Int32} {w0__j : Int} (t_w0_ : mI w0_ = w0__j) {w1_ : (Nat → Int32)} {w1__j : (Nat → Int)} (t_w1_ : mA w1_ = w1__j) {w2_ : (Nat → Int32)} {w2__j : (Nat → Int)} (t_w2_ : mA w2_ = w2__j) : tl (mP mI (mP mA (mP mA mA))) (iM_steps_b55 N_j a1_j v_lie_j v_ratio_j v_plain_j k245_j n_j w0__j w1__j w2__j) (pM_steps_b55 N a1 v_lie v_ratio v_plain k245 n w0_ w1_ w2_) := by
  subst t_N
  subst t_a1
  subst t_v_lie
  subst t_v_ratio
  subst t_v_plain
  subst t_n
  subst t_w0_
  subst t_w1_
  subst t_w2_
  exact tl_zlp3 (fun s2 s hs w0_ w1_ w2_ => t_pM_steps_b55_F (Eq.refl N) (Eq.refl (mI a1)) (Eq.refl (mA v_lie)) (Eq.refl (mA v_ratio)) (Eq.refl (mA v_plain)) t_k245 hs (Eq.refl (mI w0_)) (Eq.refl (mA w1_)) (Eq.refl (mA w2_))) n w0_ w1_ w2_
theorem t_pM_steps_b250_F {N N_j : Nat} (t_N : N = N_j) {a1 : Int32} {a1_j : Int} (t_a1 : mI a1 = a1_j) {v_lie : (Nat → Int32)} {v_lie_j : (Nat → Int)} (t_v_lie : mA v_lie = v_lie_j) {v_ratio : (Nat → Int32)} {v_ratio_j : (Nat → Int)} (t_v_ratio : mA v_ratio = v_ratio_j) {v_fewest : (Nat → Int32)} {v_fewest_j : (Nat → Int)} (t_v_fewest : mA v_fewest = v_fewest_j) {v_next : (Nat → Int32)} {v_next_j : (Nat → Int)} (t_v_next : mA v_next = v_next_j) {v_plain : (Nat → Int32)} {v_plain_j : (Nat → Int)} (t_v_plain : mA v_plain = v_plain_j) {self : Int32 → Int32 → Option R_pM_steps} {self_j : Int → Int → Option R_iM_steps} (t_self : ∀ (q0_ : Int32) (q1_ : Int32), tl (mP mI (mP mA (mP mA mA))) (self_j (mI q0_) (mI q1_)) (self q0_ q1_)) {x2 : Int32} {x2_j : Int} (t_x2 : mI x2 = x2_j) {x3 : Int32} {x3_j : Int} (t_x3 : mI x3 = x3_j) : tl (mP mI (mP mA (mP mA mA))) (iM_steps_b250_F N_j a1_j v_lie_j v_ratio_j v_fewest_j v_next_j v_plain_j self_j x2_j x3_j) (pM_steps_b250_F N a1 v_lie v_ratio v_fewest v_next v_plain self x2 x3) := by
  subst t_N
  subst t_a1
  subst t_v_lie
  subst t_v_ratio
  subst t_v_fewest
  subst t_v_next
  subst t_v_plain
  subst t_x2
  subst t_x3
  unfold iM_steps_b250_F pM_steps_b250_F
  refine tl_ite (jc_lt jlitI_600 (Eq.refl (mI x3))) ?_ ?_
  · exact (tl_some (jp2 (Eq.refl (mI x2)) (jp2 (Eq.refl (mA v_fewest)) (jp2 (Eq.refl (mA v_next)) (Eq.refl (mA v_plain))))))
  · refine tl_gd (jg_ib (Eq.refl (mI x3))) (fun _ => ?_)
    refine tl_g (fun h1 => ?_)
    refine tl_g (fun h2 => ?_)
    refine tl_g (fun h3 => ?_)
    refine tl_bd1 (t_pM_size (ja_sub (ja_sub (ja_add (jrd (Eq.refl (mA v_lie)) (jx jlitI_12)) (Eq.refl (mI x3)) h1) jlitI_300 h2) (jrd (Eq.refl (mA v_plain)) (jx jlitI_12)) h3)) (fun rc6 => ?_)
    refine tl_g (fun h4 => ?_)
    refine tl_ite (jc_le (Eq.refl (mI x2)) (ja_add (jrd (Eq.refl (mA v_fewest)) (jx (Eq.refl (mI x3)))) (Eq.refl (mI rc6)) h4)) ?_ ?_
    · refine tl_g (fun h5 => ?_)
      exact (tl_e2 (Eq.refl (mI x2)) (ja_add (Eq.refl (mI x3)) jlitI_1 h5) (t_self _ _))
    · refine tl_g (fun h6 => ?_)
      exact (tl_e2 (ja_add (jrd (Eq.refl (mA v_fewest)) (jx (Eq.refl (mI x3)))) (Eq.refl (mI rc6)) h4) (ja_add (Eq.refl (mI x3)) jlitI_1 h6) (t_self _ _))
theorem t_pM_steps_b250 {N N_j : Nat} (t_N : N = N_j) {a1 : Int32} {a1_j : Int} (t_a1 : mI a1 = a1_j) {v_lie : (Nat → Int32)} {v_lie_j : (Nat → Int)} (t_v_lie : mA v_lie = v_lie_j) {v_ratio : (Nat → Int32)} {v_ratio_j : (Nat → Int)} (t_v_ratio : mA v_ratio = v_ratio_j) {v_fewest : (Nat → Int32)} {v_fewest_j : (Nat → Int)} (t_v_fewest : mA v_fewest = v_fewest_j) {v_next : (Nat → Int32)} {v_next_j : (Nat → Int)} (t_v_next : mA v_next = v_next_j) {v_plain : (Nat → Int32)} {v_plain_j : (Nat → Int)} (t_v_plain : mA v_plain = v_plain_j) {n n_j : Nat} (t_n : n = n_j) {w0_ : Int32} {w0__j : Int} (t_w0_ : mI w0_ = w0__j) {w1_ : Int32} {w1__j : Int} (t_w1_ : mI w1_ = w1__j) : tl (mP mI (mP mA (mP mA mA))) (iM_steps_b250 N_j a1_j v_lie_j v_ratio_j v_fewest_j v_next_j v_plain_j n_j w0__j w1__j) (pM_steps_b250 N a1 v_lie v_ratio v_fewest v_next v_plain n w0_ w1_) := by
  subst t_N
  subst t_a1
  subst t_v_lie
  subst t_v_ratio
  subst t_v_fewest
  subst t_v_next
  subst t_v_plain
  subst t_n
  subst t_w0_
  subst t_w1_
  exact tl_zlp2 (fun s2 s hs w0_ w1_ => t_pM_steps_b250_F (Eq.refl N) (Eq.refl (mI a1)) (Eq.refl (mA v_lie)) (Eq.refl (mA v_ratio)) (Eq.refl (mA v_fewest)) (Eq.refl (mA v_next)) (Eq.refl (mA v_plain)) hs (Eq.refl (mI w0_)) (Eq.refl (mI w1_))) n w0_ w1_
theorem t_pM_steps_b245 {N N_j : Nat} (t_N : N = N_j) {a1 : Int32} {a1_j : Int} (t_a1 : mI a1 = a1_j) {v_lie : (Nat → Int32)} {v_lie_j : (Nat → Int)} (t_v_lie : mA v_lie = v_lie_j) {v_ratio : (Nat → Int32)} {v_ratio_j : (Nat → Int)} (t_v_ratio : mA v_ratio = v_ratio_j) {v_fewest : (Nat → Int32)} {v_fewest_j : (Nat → Int)} (t_v_fewest : mA v_fewest = v_fewest_j) {v_next : (Nat → Int32)} {v_next_j : (Nat → Int)} (t_v_next : mA v_next = v_next_j) {v_plain : (Nat → Int32)} {v_plain_j : (Nat → Int)} (t_v_plain : mA v_plain = v_plain_j) : tl (mP mI (mP mA (mP mA mA))) (iM_steps_b245 N_j a1_j v_lie_j v_ratio_j v_fewest_j v_next_j v_plain_j) (pM_steps_b245 N a1 v_lie v_ratio v_fewest v_next v_plain) := by
  subst t_N
  subst t_a1
  subst t_v_lie
  subst t_v_ratio
  subst t_v_fewest
  subst t_v_next
  subst t_v_plain
  unfold iM_steps_b245 pM_steps_b245
  exact (t_pM_steps_b250 (Eq.refl N) (Eq.refl (mI a1)) (Eq.refl (mA v_lie)) (Eq.refl (mA v_ratio)) (Eq.refl (mA v_fewest)) (Eq.refl (mA v_next)) (Eq.refl (mA v_plain)) (Eq.refl N) jlitI_100000000 jlitI_0)
theorem t_pM_steps_b53 {N N_j : Nat} (t_N : N = N_j) {a1 : Int32} {a1_j : Int} (t_a1 : mI a1 = a1_j) {v_lie : (Nat → Int32)} {v_lie_j : (Nat → Int)} (t_v_lie : mA v_lie = v_lie_j) {v_ratio : (Nat → Int32)} {v_ratio_j : (Nat → Int)} (t_v_ratio : mA v_ratio = v_ratio_j) {v_fewest : (Nat → Int32)} {v_fewest_j : (Nat → Int)} (t_v_fewest : mA v_fewest = v_fewest_j) {v_next : (Nat → Int32)} {v_next_j : (Nat → Int)} (t_v_next : mA v_next = v_next_j) {v_plain : (Nat → Int32)} {v_plain_j : (Nat → Int)} (t_v_plain : mA v_plain = v_plain_j) : tl (mP mI (mP mA (mP mA mA))) (iM_steps_b53 N_j a1_j v_lie_j v_ratio_j v_fewest_j v_next_j v_plain_j) (pM_steps_b53 N a1 v_lie v_ratio v_fewest v_next v_plain) := by
  subst t_N
  subst t_a1
  subst t_v_lie
  subst t_v_ratio
  subst t_v_fewest
  subst t_v_next
  subst t_v_plain
  unfold iM_steps_b53 pM_steps_b53
  exact (t_pM_steps_b55 (Eq.refl N) (Eq.refl (mI a1)) (Eq.refl (mA v_lie)) (Eq.refl (mA v_ratio)) (Eq.refl (mA v_plain)) (fun v_fewest_k6 v_next_k7 => by exact (t_pM_steps_b245 (Eq.refl N) (Eq.refl (mI a1)) (Eq.refl (mA v_lie)) (Eq.refl (mA v_ratio)) (Eq.refl (mA v_fewest_k6)) (Eq.refl (mA v_next_k7)) (Eq.refl (mA v_plain)))) (Eq.refl N) jlitI_0 (Eq.refl (mA v_fewest)) (Eq.refl (mA v_next)))
theorem t_pM_steps {N N_j : Nat} (t_N : N = N_j) {a1 : Int32} {a1_j : Int} (t_a1 : mI a1 = a1_j) {v_fewest : (Nat → Int32)} {v_fewest_j : (Nat → Int)} (t_v_fewest : mA v_fewest = v_fewest_j) {v_lie : (Nat → Int32)} {v_lie_j : (Nat → Int)} (t_v_lie : mA v_lie = v_lie_j) {v_next : (Nat → Int32)} {v_next_j : (Nat → Int)} (t_v_next : mA v_next = v_next_j) {v_plain : (Nat → Int32)} {v_plain_j : (Nat → Int)} (t_v_plain : mA v_plain = v_plain_j) {v_ratio : (Nat → Int32)} {v_ratio_j : (Nat → Int)} (t_v_ratio : mA v_ratio = v_ratio_j) : tl (mP mI (mP mA (mP mA mA))) (iM_steps N_j a1_j v_fewest_j v_lie_j v_next_j v_plain_j v_ratio_j) (pM_steps N a1 v_fewest v_lie v_next v_plain v_ratio) := by
  subst t_N
  subst t_a1
  subst t_v_fewest
  subst t_v_lie
  subst t_v_next
  subst t_v_plain
  subst t_v_ratio
  unfold iM_steps pM_steps
  refine tl_bd1 (t_pM_isIn (ja_i2l (Eq.refl (mI a1))) jlitJ_0 jlitJ_1000000000) (fun rc1 => ?_)
  refine tl_ite (jc_eq (Eq.refl (mI rc1)) jlitI_0) ?_ ?_
  · exact (tl_some (jp2 jlitI_m1 (jp2 (Eq.refl (mA v_fewest)) (jp2 (Eq.refl (mA v_next)) (Eq.refl (mA v_plain))))))
  · refine tl_bd1 (t_pM_plains (Eq.refl N) (Eq.refl (mI a1)) (Eq.refl (mA v_plain)) (Eq.refl (mA v_ratio))) (fun v_plain_c2 => ?_)
    exact (t_pM_steps_b21 (Eq.refl N) (Eq.refl (mI a1)) (Eq.refl (mA v_lie)) (Eq.refl (mA v_ratio)) (Eq.refl (mA v_next)) (Eq.refl (mA v_plain_c2)) (fun v_fewest_k1 => by exact (t_pM_steps_b53 (Eq.refl N) (Eq.refl (mI a1)) (Eq.refl (mA v_lie)) (Eq.refl (mA v_ratio)) (Eq.refl (mA v_fewest_k1)) (Eq.refl (mA v_next)) (Eq.refl (mA v_plain_c2)))) (Eq.refl N) jlitI_0 (Eq.refl (mA v_fewest)))
theorem t_pM_half {a0 : Int32} {a0_j : Int} (t_a0 : mI a0 = a0_j) {a1 : Int32} {a1_j : Int} (t_a1 : mI a1 = a1_j) : tl (mI) (iM_half a0_j a1_j) (pM_half a0 a1) := by
  subst t_a0
  subst t_a1
  unfold iM_half pM_half
  refine tl_bd1 (t_pM_isIn (ja_i2l (Eq.refl (mI a1))) jlitJ_0 jlitJ_9) (fun rc1 => ?_)
  refine tl_ite (jc_eq (Eq.refl (mI rc1)) jlitI_0) ?_ ?_
  · exact (tl_some jlitI_m1)
  · refine tl_ite (jc_eq (Eq.refl (mI a0)) jlitI_0) ?_ ?_
    · exact (tl_some (Eq.refl (mI a1)))
    · refine tl_g (fun h1 => ?_)
      exact (tl_some (ja_add jlitI_10 (Eq.refl (mI a1)) h1))
theorem t_pM_cut_b88 {a1 : Int32} {a1_j : Int} (t_a1 : mI a1 = a1_j) {a2 : Int32} {a2_j : Int} (t_a2 : mI a2 = a2_j) {a3 : Int32} {a3_j : Int} (t_a3 : mI a3 = a3_j) {a4 : Int32} {a4_j : Int} (t_a4 : mI a4 = a4_j) {x5 : Int32} {x5_j : Int} (t_x5 : mI x5 = x5_j) {v_cutAt : (Nat → Int32)} {v_cutAt_j : (Nat → Int)} (t_v_cutAt : mA v_cutAt = v_cutAt_j) {v_cutWorth : (Nat → Int32)} {v_cutWorth_j : (Nat → Int)} (t_v_cutWorth : mA v_cutWorth = v_cutWorth_j) {v_cuts : (Nat → Int32)} {v_cuts_j : (Nat → Int)} (t_v_cuts : mA v_cuts = v_cuts_j) : tl (mP mI (mP mA (mP mA mA))) (iM_cut_b88 a1_j a2_j a3_j a4_j x5_j v_cutAt_j v_cutWorth_j v_cuts_j) (pM_cut_b88 a1 a2 a3 a4 x5 v_cutAt v_cutWorth v_cuts) := by
  subst t_a1
  subst t_a2
  subst t_a3
  subst t_a4
  subst t_x5
  subst t_v_cutAt
  subst t_v_cutWorth
  subst t_v_cuts
  unfold iM_cut_b88 pM_cut_b88
  refine tl_gd (jg_ib (Eq.refl (mI x5))) (fun _ => ?_)
  refine tl_g (fun h1 => ?_)
  refine tl_g (fun h2 => ?_)
  refine tl_gd (jg_ib (ja_add (ja_mul jlitI_12 (Eq.refl (mI x5)) h1) (jrd (Eq.refl (mA v_cuts)) (jx (Eq.refl (mI x5)))) h2)) (fun _ => ?_)
  refine tl_g (fun h3 => ?_)
  exact (tl_some (jp2 (jrd (jupA (Eq.refl (mA v_cuts)) (jx (Eq.refl (mI x5))) (ja_add (jrd (Eq.refl (mA v_cuts)) (jx (Eq.refl (mI x5)))) jlitI_1 h3)) (jx (Eq.refl (mI x5)))) (jp2 (jupA (Eq.refl (mA v_cutAt)) (jx (ja_add (ja_mul jlitI_12 (Eq.refl (mI x5)) h1) (jrd (Eq.refl (mA v_cuts)) (jx (Eq.refl (mI x5)))) h2)) (Eq.refl (mI a3))) (jp2 (jupA (Eq.refl (mA v_cutWorth)) (jx (ja_add (ja_mul jlitI_12 (Eq.refl (mI x5)) h1) (jrd (Eq.refl (mA v_cuts)) (jx (Eq.refl (mI x5)))) h2)) (Eq.refl (mI a4))) (jupA (Eq.refl (mA v_cuts)) (jx (Eq.refl (mI x5))) (ja_add (jrd (Eq.refl (mA v_cuts)) (jx (Eq.refl (mI x5)))) jlitI_1 h3))))))
theorem t_pM_cut {a1 : Int32} {a1_j : Int} (t_a1 : mI a1 = a1_j) {a2 : Int32} {a2_j : Int} (t_a2 : mI a2 = a2_j) {a3 : Int32} {a3_j : Int} (t_a3 : mI a3 = a3_j) {a4 : Int32} {a4_j : Int} (t_a4 : mI a4 = a4_j) {v_cutAt : (Nat → Int32)} {v_cutAt_j : (Nat → Int)} (t_v_cutAt : mA v_cutAt = v_cutAt_j) {v_cutWorth : (Nat → Int32)} {v_cutWorth_j : (Nat → Int)} (t_v_cutWorth : mA v_cutWorth = v_cutWorth_j) {v_cuts : (Nat → Int32)} {v_cuts_j : (Nat → Int)} (t_v_cuts : mA v_cuts = v_cuts_j) : tl (mP mI (mP mA (mP mA mA))) (iM_cut a1_j a2_j a3_j a4_j v_cutAt_j v_cutWorth_j v_cuts_j) (pM_cut a1 a2 a3 a4 v_cutAt v_cutWorth v_cuts) := by
  subst t_a1
  subst t_a2
  subst t_a3
  subst t_a4
  subst t_v_cutAt
  subst t_v_cutWorth
  subst t_v_cuts
  unfold iM_cut pM_cut
  refine tl_bd1 (t_pM_half (Eq.refl (mI a1)) (Eq.refl (mI a2))) (fun rc1 => ?_)
  refine tl_ite (jc_eq (Eq.refl (mI rc1)) jlitI_m1) ?_ ?_
  · exact (tl_some (jp2 jlitI_m1 (jp2 (Eq.refl (mA v_cutAt)) (jp2 (Eq.refl (mA v_cutWorth)) (Eq.refl (mA v_cuts))))))
  · refine tl_bd1 (t_pM_isIn (ja_i2l (Eq.refl (mI a3))) jlitJ_0 jlitJ_240) (fun rc2 => ?_)
    refine tl_ite (jc_eq (Eq.refl (mI rc2)) jlitI_0) ?_ ?_
    · exact (tl_some (jp2 jlitI_m1 (jp2 (Eq.refl (mA v_cutAt)) (jp2 (Eq.refl (mA v_cutWorth)) (Eq.refl (mA v_cuts))))))
    · refine tl_bd1 (t_pM_isIn (ja_i2l (Eq.refl (mI a4))) jlitJ_0 jlitJ_5) (fun rc3 => ?_)
      refine tl_ite (jc_eq (Eq.refl (mI rc3)) jlitI_0) ?_ ?_
      · exact (tl_some (jp2 jlitI_m1 (jp2 (Eq.refl (mA v_cutAt)) (jp2 (Eq.refl (mA v_cutWorth)) (Eq.refl (mA v_cuts))))))
      · refine tl_gd (jg_ib (Eq.refl (mI rc1))) (fun _ => ?_)
        refine tl_ite (jc_eq (jrd (Eq.refl (mA v_cuts)) (jx (Eq.refl (mI rc1)))) jlitI_12) ?_ ?_
        · exact (tl_some (jp2 jlitI_m1 (jp2 (Eq.refl (mA v_cutAt)) (jp2 (Eq.refl (mA v_cutWorth)) (Eq.refl (mA v_cuts))))))
        · refine tl_ite (jc_le (jrd (Eq.refl (mA v_cuts)) (jx (Eq.refl (mI rc1)))) jlitI_0) ?_ ?_
          · exact (t_pM_cut_b88 (Eq.refl (mI a1)) (Eq.refl (mI a2)) (Eq.refl (mI a3)) (Eq.refl (mI a4)) (Eq.refl (mI rc1)) (Eq.refl (mA v_cutAt)) (Eq.refl (mA v_cutWorth)) (Eq.refl (mA v_cuts)))
          · refine tl_g (fun h1 => ?_)
            refine tl_g (fun h2 => ?_)
            refine tl_g (fun h3 => ?_)
            refine tl_gd (jg_ib (ja_sub (ja_add (ja_mul jlitI_12 (Eq.refl (mI rc1)) h1) (jrd (Eq.refl (mA v_cuts)) (jx (Eq.refl (mI rc1)))) h2) jlitI_1 h3)) (fun _ => ?_)
            refine tl_ite (jc_lt (jrd (Eq.refl (mA v_cutAt)) (jx (ja_sub (ja_add (ja_mul jlitI_12 (Eq.refl (mI rc1)) h1) (jrd (Eq.refl (mA v_cuts)) (jx (Eq.refl (mI rc1)))) h2) jlitI_1 h3))) (Eq.refl (mI a3))) ?_ ?_
            · exact (t_pM_cut_b88 (Eq.refl (mI a1)) (Eq.refl (mI a2)) (Eq.refl (mI a3)) (Eq.refl (mI a4)) (Eq.refl (mI rc1)) (Eq.refl (mA v_cutAt)) (Eq.refl (mA v_cutWorth)) (Eq.refl (mA v_cuts)))
            · exact (tl_some (jp2 jlitI_m1 (jp2 (Eq.refl (mA v_cutAt)) (jp2 (Eq.refl (mA v_cutWorth)) (Eq.refl (mA v_cuts))))))
theorem t_pM_isThere {a1 : Int32} {a1_j : Int} (t_a1 : mI a1 = a1_j) {v_cuts : (Nat → Int32)} {v_cuts_j : (Nat → Int)} (t_v_cuts : mA v_cuts = v_cuts_j) : tl (mI) (iM_isThere a1_j v_cuts_j) (pM_isThere a1 v_cuts) := by
  subst t_a1
  subst t_v_cuts
  unfold iM_isThere pM_isThere
  refine tl_ite (jc_eq (Eq.refl (mI a1)) jlitI_m1) ?_ ?_
  · exact (tl_some jlitI_0)
  · refine tl_gd (jg_ib (Eq.refl (mI a1))) (fun _ => ?_)
    refine tl_ite (jc_le (jrd (Eq.refl (mA v_cuts)) (jx (Eq.refl (mI a1)))) jlitI_0) ?_ ?_
    · exact (tl_some jlitI_0)
    · exact (tl_some jlitI_1)
theorem t_pM_burn {a1 : Int32} {a1_j : Int} (t_a1 : mI a1 = a1_j) {a2 : Int32} {a2_j : Int} (t_a2 : mI a2 = a2_j) {v_cuts : (Nat → Int32)} {v_cuts_j : (Nat → Int)} (t_v_cuts : mA v_cuts = v_cuts_j) : tl (mP mI mA) (iM_burn a1_j a2_j v_cuts_j) (pM_burn a1 a2 v_cuts) := by
  subst t_a1
  subst t_a2
  subst t_v_cuts
  unfold iM_burn pM_burn
  refine tl_bd1 (t_pM_half (Eq.refl (mI a1)) (Eq.refl (mI a2))) (fun rc1 => ?_)
  refine tl_bd1 (t_pM_isThere (Eq.refl (mI rc1)) (Eq.refl (mA v_cuts))) (fun rc2 => ?_)
  refine tl_ite (jc_eq (Eq.refl (mI rc2)) jlitI_0) ?_ ?_
  · exact (tl_some (jp2 jlitI_0 (Eq.refl (mA v_cuts))))
  · refine tl_gd (jg_ib (Eq.refl (mI rc1))) (fun _ => ?_)
    exact (tl_some (jp2 jlitI_1 (jupA (Eq.refl (mA v_cuts)) (jx (Eq.refl (mI rc1))) jlitI_0)))
theorem t_pM_sumOf_b4_F {N N_j : Nat} (t_N : N = N_j) {a1 : Int32} {a1_j : Int} (t_a1 : mI a1 = a1_j) {v_cutWorth : (Nat → Int32)} {v_cutWorth_j : (Nat → Int)} (t_v_cutWorth : mA v_cutWorth = v_cutWorth_j) {v_cuts : (Nat → Int32)} {v_cuts_j : (Nat → Int)} (t_v_cuts : mA v_cuts = v_cuts_j) {v_pence : (Nat → Int32)} {v_pence_j : (Nat → Int)} (t_v_pence : mA v_pence = v_pence_j) {self : Int32 → Int32 → Option R_pM_sumOf} {self_j : Int → Int → Option Int} (t_self : ∀ (q0_ : Int32) (q1_ : Int32), tl (mI) (self_j (mI q0_) (mI q1_)) (self q0_ q1_)) {x2 : Int32} {x2_j : Int} (t_x2 : mI x2 = x2_j) {x3 : Int32} {x3_j : Int} (t_x3 : mI x3 = x3_j) : tl (mI) (iM_sumOf_b4_F N_j a1_j v_cutWorth_j v_cuts_j v_pence_j self_j x2_j x3_j) (pM_sumOf_b4_F N a1 v_cutWorth v_cuts v_pence self x2 x3) := by
  subst t_N
  subst t_a1
  subst t_v_cutWorth
  subst t_v_cuts
  subst t_v_pence
  subst t_x2
  subst t_x3
  unfold iM_sumOf_b4_F pM_sumOf_b4_F
  refine tl_gd (jg_ib (Eq.refl (mI a1))) (fun _ => ?_)
  refine tl_ite (jc_le (jrd (Eq.refl (mA v_cuts)) (jx (Eq.refl (mI a1)))) (Eq.refl (mI x3))) ?_ ?_
  · exact (tl_some (Eq.refl (mI x2)))
  · refine tl_g (fun h1 => ?_)
    refine tl_g (fun h2 => ?_)
    refine tl_gd (jg_ib (ja_add (ja_mul jlitI_12 (Eq.refl (mI a1)) h1) (Eq.refl (mI x3)) h2)) (fun _ => ?_)
    refine tl_gd (jg_ib (jrd (Eq.refl (mA v_cutWorth)) (jx (ja_add (ja_mul jlitI_12 (Eq.refl (mI a1)) h1) (Eq.refl (mI x3)) h2)))) (fun _ => ?_)
    refine tl_g (fun h3 => ?_)
    refine tl_g (fun h4 => ?_)
    exact (tl_e2 (ja_add (Eq.refl (mI x2)) (jrd (Eq.refl (mA v_pence)) (jx (jrd (Eq.refl (mA v_cutWorth)) (jx (ja_add (ja_mul jlitI_12 (Eq.refl (mI a1)) h1) (Eq.refl (mI x3)) h2))))) h3) (ja_add (Eq.refl (mI x3)) jlitI_1 h4) (t_self _ _))
theorem t_pM_sumOf_b4 {N N_j : Nat} (t_N : N = N_j) {a1 : Int32} {a1_j : Int} (t_a1 : mI a1 = a1_j) {v_cutWorth : (Nat → Int32)} {v_cutWorth_j : (Nat → Int)} (t_v_cutWorth : mA v_cutWorth = v_cutWorth_j) {v_cuts : (Nat → Int32)} {v_cuts_j : (Nat → Int)} (t_v_cuts : mA v_cuts = v_cuts_j) {v_pence : (Nat → Int32)} {v_pence_j : (Nat → Int)} (t_v_pence : mA v_pence = v_pence_j) {n n_j : Nat} (t_n : n = n_j) {w0_ : Int32} {w0__j : Int} (t_w0_ : mI w0_ = w0__j) {w1_ : Int32} {w1__j : Int} (t_w1_ : mI w1_ = w1__j) : tl (mI) (iM_sumOf_b4 N_j a1_j v_cutWorth_j v_cuts_j v_pence_j n_j w0__j w1__j) (pM_sumOf_b4 N a1 v_cutWorth v_cuts v_pence n w0_ w1_) := by
  subst t_N
  subst t_a1
  subst t_v_cutWorth
  subst t_v_cuts
  subst t_v_pence
  subst t_n
  subst t_w0_
  subst t_w1_
  exact tl_zlp2 (fun s2 s hs w0_ w1_ => t_pM_sumOf_b4_F (Eq.refl N) (Eq.refl (mI a1)) (Eq.refl (mA v_cutWorth)) (Eq.refl (mA v_cuts)) (Eq.refl (mA v_pence)) hs (Eq.refl (mI w0_)) (Eq.refl (mI w1_))) n w0_ w1_
theorem t_pM_sumOf {N N_j : Nat} (t_N : N = N_j) {a1 : Int32} {a1_j : Int} (t_a1 : mI a1 = a1_j) {v_cutWorth : (Nat → Int32)} {v_cutWorth_j : (Nat → Int)} (t_v_cutWorth : mA v_cutWorth = v_cutWorth_j) {v_cuts : (Nat → Int32)} {v_cuts_j : (Nat → Int)} (t_v_cuts : mA v_cuts = v_cuts_j) {v_pence : (Nat → Int32)} {v_pence_j : (Nat → Int)} (t_v_pence : mA v_pence = v_pence_j) : tl (mI) (iM_sumOf N_j a1_j v_cutWorth_j v_cuts_j v_pence_j) (pM_sumOf N a1 v_cutWorth v_cuts v_pence) := by
  subst t_N
  subst t_a1
  subst t_v_cutWorth
  subst t_v_cuts
  subst t_v_pence
  unfold iM_sumOf pM_sumOf
  exact (t_pM_sumOf_b4 (Eq.refl N) (Eq.refl (mI a1)) (Eq.refl (mA v_cutWorth)) (Eq.refl (mA v_cuts)) (Eq.refl (mA v_pence)) (Eq.refl N) jlitI_0 jlitI_0)
theorem t_pM_sum {N N_j : Nat} (t_N : N = N_j) {a1 : Int32} {a1_j : Int} (t_a1 : mI a1 = a1_j) {a2 : Int32} {a2_j : Int} (t_a2 : mI a2 = a2_j) {v_cutWorth : (Nat → Int32)} {v_cutWorth_j : (Nat → Int)} (t_v_cutWorth : mA v_cutWorth = v_cutWorth_j) {v_cuts : (Nat → Int32)} {v_cuts_j : (Nat → Int)} (t_v_cuts : mA v_cuts = v_cuts_j) {v_pence : (Nat → Int32)} {v_pence_j : (Nat → Int)} (t_v_pence : mA v_pence = v_pence_j) : tl (mI) (iM_sum N_j a1_j a2_j v_cutWorth_j v_cuts_j v_pence_j) (pM_sum N a1 a2 v_cutWorth v_cuts v_pence) := by
  subst t_N
  subst t_a1
  subst t_a2
  subst t_v_cutWorth
  subst t_v_cuts
  subst t_v_pence
  unfold iM_sum pM_sum
  refine tl_bd1 (t_pM_half (Eq.refl (mI a1)) (Eq.refl (mI a2))) (fun rc1 => ?_)
  refine tl_bd1 (t_pM_isThere (Eq.refl (mI rc1)) (Eq.refl (mA v_cuts))) (fun rc2 => ?_)
  refine tl_ite (jc_eq (Eq.refl (mI rc2)) jlitI_0) ?_ ?_
  · exact (tl_some jlitI_m1)
  · refine tl_bd1 (t_pM_sumOf (Eq.refl N) (Eq.refl (mI rc1)) (Eq.refl (mA v_cutWorth)) (Eq.refl (mA v_cuts)) (Eq.refl (mA v_pence))) (fun rc3 => ?_)
    exact (tl_some (Eq.refl (mI rc3)))
theorem t_pM_wear {a1 : Int32} {a1_j : Int} (t_a1 : mI a1 = a1_j) {a2 : Int32} {a2_j : Int} (t_a2 : mI a2 = a2_j) {a3 : Int32} {a3_j : Int} (t_a3 : mI a3 = a3_j) {v_grain : Int32} {v_grain_j : Int} (t_v_grain : mI v_grain = v_grain_j) {v_limit : Int32} {v_limit_j : Int} (t_v_limit : mI v_limit = v_limit_j) {v_lost : Int32} {v_lost_j : Int} (t_v_lost : mI v_lost = v_lost_j) : tl (mP mI (mP mI (mP mI mI))) (iM_wear a1_j a2_j a3_j v_grain_j v_limit_j v_lost_j) (pM_wear a1 a2 a3 v_grain v_limit v_lost) := by
  subst t_a1
  subst t_a2
  subst t_a3
  subst t_v_grain
  subst t_v_limit
  subst t_v_lost
  unfold iM_wear pM_wear
  refine tl_bd1 (t_pM_isIn (ja_i2l (Eq.refl (mI a1))) jlitJ_0 jlitJ_20) (fun rc1 => ?_)
  refine tl_ite (jc_eq (Eq.refl (mI rc1)) jlitI_0) ?_ ?_
  · exact (tl_some (jp2 jlitI_0 (jp2 (Eq.refl (mI v_grain)) (jp2 (Eq.refl (mI v_limit)) (Eq.refl (mI v_lost))))))
  · refine tl_bd1 (t_pM_isIn (ja_i2l (Eq.refl (mI a2))) jlitJ_1 jlitJ_100) (fun rc2 => ?_)
    refine tl_ite (jc_eq (Eq.refl (mI rc2)) jlitI_0) ?_ ?_
    · exact (tl_some (jp2 jlitI_0 (jp2 (Eq.refl (mI v_grain)) (jp2 (Eq.refl (mI v_limit)) (Eq.refl (mI v_lost))))))
    · refine tl_bd1 (t_pM_isIn (ja_i2l (Eq.refl (mI a3))) jlitJ_0 jlitJ_500) (fun rc3 => ?_)
      refine tl_ite (jc_eq (Eq.refl (mI rc3)) jlitI_0) ?_ ?_
      · exact (tl_some (jp2 jlitI_0 (jp2 (Eq.refl (mI v_grain)) (jp2 (Eq.refl (mI v_limit)) (Eq.refl (mI v_lost))))))
      · exact (tl_some (jp2 jlitI_1 (jp2 (Eq.refl (mI a1)) (jp2 (Eq.refl (mI a3)) (Eq.refl (mI a2))))))
theorem t_pM_pairs {a1 : Int32} {a1_j : Int} (t_a1 : mI a1 = a1_j) {a2 : Int32} {a2_j : Int} (t_a2 : mI a2 = a2_j) {v_grain : Int32} {v_grain_j : Int} (t_v_grain : mI v_grain = v_grain_j) {v_cutAt : (Nat → Int32)} {v_cutAt_j : (Nat → Int)} (t_v_cutAt : mA v_cutAt = v_cutAt_j) {v_cutWorth : (Nat → Int32)} {v_cutWorth_j : (Nat → Int)} (t_v_cutWorth : mA v_cutWorth = v_cutWorth_j) : tl (mI) (iM_pairs a1_j a2_j v_grain_j v_cutAt_j v_cutWorth_j) (pM_pairs a1 a2 v_grain v_cutAt v_cutWorth) := by
  subst t_a1
  subst t_a2
  subst t_v_grain
  subst t_v_cutAt
  subst t_v_cutWorth
  unfold iM_pairs pM_pairs
  refine tl_gd (jg_ib (Eq.refl (mI a1))) (fun _ => ?_)
  refine tl_gd (jg_ib (Eq.refl (mI a2))) (fun _ => ?_)
  refine tl_ite (jc_eq (jrd (Eq.refl (mA v_cutWorth)) (jx (Eq.refl (mI a1)))) (jrd (Eq.refl (mA v_cutWorth)) (jx (Eq.refl (mI a2))))) ?_ ?_
  · refine tl_g (fun h1 => ?_)
    refine tl_bd1 (t_pM_size (ja_sub (jrd (Eq.refl (mA v_cutAt)) (jx (Eq.refl (mI a1)))) (jrd (Eq.refl (mA v_cutAt)) (jx (Eq.refl (mI a2)))) h1)) (fun rc3 => ?_)
    refine tl_ite (jc_lt (Eq.refl (mI v_grain)) (Eq.refl (mI rc3))) ?_ ?_
    · exact (tl_some jlitI_0)
    · exact (tl_some jlitI_1)
  · exact (tl_some jlitI_0)
theorem t_pM_fitOf_b236 {N N_j : Nat} (t_N : N = N_j) {a1 : Int32} {a1_j : Int} (t_a1 : mI a1 = a1_j) {a2 : Int32} {a2_j : Int} (t_a2 : mI a2 = a2_j) {v_grain : Int32} {v_grain_j : Int} (t_v_grain : mI v_grain = v_grain_j) {v_lost : Int32} {v_lost_j : Int} (t_v_lost : mI v_lost = v_lost_j) {v_cutAt : (Nat → Int32)} {v_cutAt_j : (Nat → Int)} (t_v_cutAt : mA v_cutAt = v_cutAt_j) {v_cutWorth : (Nat → Int32)} {v_cutWorth_j : (Nat → Int)} (t_v_cutWorth : mA v_cutWorth = v_cutWorth_j) {v_cuts : (Nat → Int32)} {v_cuts_j : (Nat → Int)} (t_v_cuts : mA v_cuts = v_cuts_j) {self : Int32 → (Nat → Int32) → Option R_pM_fitOf} {self_j : Int → (Nat → Int) → Option R_iM_fitOf} (t_self : ∀ (q0_ : Int32) (q1_ : (Nat → Int32)), tl (mP mI mA) (self_j (mI q0_) (mA q1_)) (self q0_ q1_)) {k256 : (Nat → Int32) → Option R_pM_fitOf} {k256_j : (Nat → Int) → Option R_iM_fitOf} (t_k256 : ∀ (q0_ : (Nat → Int32)), tl (mP mI mA) (k256_j (mA q0_)) (k256 q0_)) {x3 : Int32} {x3_j : Int} (t_x3 : mI x3 = x3_j) {x4 : Int32} {x4_j : Int} (t_x4 : mI x4 = x4_j) {x5 : Int32} {x5_j : Int} (t_x5 : mI x5 = x5_j) {v_cost : (Nat → Int32)} {v_cost_j : (Nat → Int)} (t_v_cost : mA v_cost = v_cost_j) : tl (mP mI mA) (iM_fitOf_b236 N_j a1_j a2_j v_grain_j v_lost_j v_cutAt_j v_cutWorth_j v_cuts_j self_j k256_j x3_j x4_j x5_j v_cost_j) (pM_fitOf_b236 N a1 a2 v_grain v_lost v_cutAt v_cutWorth v_cuts self k256 x3 x4 x5 v_cost) := by
  subst t_N
  subst t_a1
  subst t_a2
  subst t_v_grain
  subst t_v_lost
  subst t_v_cutAt
  subst t_v_cutWorth
  subst t_v_cuts
  subst t_x3
  subst t_x4
  subst t_x5
  subst t_v_cost
  unfold iM_fitOf_b236 pM_fitOf_b236
  refine tl_g (fun h1 => ?_)
  refine tl_g (fun h2 => ?_)
  refine tl_gd (jg_ib (ja_add (ja_mul jlitI_13 (Eq.refl (mI x3)) h1) (Eq.refl (mI x4)) h2)) (fun _ => ?_)
  refine tl_g (fun h3 => ?_)
  exact (tl_e2 (ja_add (Eq.refl (mI x4)) jlitI_1 h3) (jupA (Eq.refl (mA v_cost)) (jx (ja_add (ja_mul jlitI_13 (Eq.refl (mI x3)) h1) (Eq.refl (mI x4)) h2)) (Eq.refl (mI x5))) (t_self _ _))
theorem t_pM_fitOf_b142 {N N_j : Nat} (t_N : N = N_j) {a1 : Int32} {a1_j : Int} (t_a1 : mI a1 = a1_j) {a2 : Int32} {a2_j : Int} (t_a2 : mI a2 = a2_j) {v_grain : Int32} {v_grain_j : Int} (t_v_grain : mI v_grain = v_grain_j) {v_lost : Int32} {v_lost_j : Int} (t_v_lost : mI v_lost = v_lost_j) {v_cutAt : (Nat → Int32)} {v_cutAt_j : (Nat → Int)} (t_v_cutAt : mA v_cutAt = v_cutAt_j) {v_cutWorth : (Nat → Int32)} {v_cutWorth_j : (Nat → Int)} (t_v_cutWorth : mA v_cutWorth = v_cutWorth_j) {v_cuts : (Nat → Int32)} {v_cuts_j : (Nat → Int)} (t_v_cuts : mA v_cuts = v_cuts_j) {self : Int32 → (Nat → Int32) → Option R_pM_fitOf} {self_j : Int → (Nat → Int) → Option R_iM_fitOf} (t_self : ∀ (q0_ : Int32) (q1_ : (Nat → Int32)), tl (mP mI mA) (self_j (mI q0_) (mA q1_)) (self q0_ q1_)) {k256 : (Nat → Int32) → Option R_pM_fitOf} {k256_j : (Nat → Int) → Option R_iM_fitOf} (t_k256 : ∀ (q0_ : (Nat → Int32)), tl (mP mI mA) (k256_j (mA q0_)) (k256 q0_)) {x3 : Int32} {x3_j : Int} (t_x3 : mI x3 = x3_j) {x4 : Int32} {x4_j : Int} (t_x4 : mI x4 = x4_j) {x5 : Int32} {x5_j : Int} (t_x5 : mI x5 = x5_j) {v_cost : (Nat → Int32)} {v_cost_j : (Nat → Int)} (t_v_cost : mA v_cost = v_cost_j) : tl (mP mI mA) (iM_fitOf_b142 N_j a1_j a2_j v_grain_j v_lost_j v_cutAt_j v_cutWorth_j v_cuts_j self_j k256_j x3_j x4_j x5_j v_cost_j) (pM_fitOf_b142 N a1 a2 v_grain v_lost v_cutAt v_cutWorth v_cuts self k256 x3 x4 x5 v_cost) := by
  subst t_N
  subst t_a1
  subst t_a2
  subst t_v_grain
  subst t_v_lost
  subst t_v_cutAt
  subst t_v_cutWorth
  subst t_v_cuts
  subst t_x3
  subst t_x4
  subst t_x5
  subst t_v_cost
  unfold iM_fitOf_b142 pM_fitOf_b142
  refine tl_ite (jc_le (Eq.refl (mI x3)) jlitI_0) ?_ ?_
  · exact (t_pM_fitOf_b236 (Eq.refl N) (Eq.refl (mI a1)) (Eq.refl (mI a2)) (Eq.refl (mI v_grain)) (Eq.refl (mI v_lost)) (Eq.refl (mA v_cutAt)) (Eq.refl (mA v_cutWorth)) (Eq.refl (mA v_cuts)) t_self t_k256 (Eq.refl (mI x3)) (Eq.refl (mI x4)) (Eq.refl (mI x5)) (Eq.refl (mA v_cost)))
  · refine tl_ite (jc_le (Eq.refl (mI x4)) jlitI_0) ?_ ?_
    · exact (t_pM_fitOf_b236 (Eq.refl N) (Eq.refl (mI a1)) (Eq.refl (mI a2)) (Eq.refl (mI v_grain)) (Eq.refl (mI v_lost)) (Eq.refl (mA v_cutAt)) (Eq.refl (mA v_cutWorth)) (Eq.refl (mA v_cuts)) t_self t_k256 (Eq.refl (mI x3)) (Eq.refl (mI x4)) (Eq.refl (mI x5)) (Eq.refl (mA v_cost)))
    · refine tl_g (fun h1 => ?_)
      refine tl_g (fun h2 => ?_)
      refine tl_g (fun h3 => ?_)
      refine tl_g (fun h4 => ?_)
      refine tl_g (fun h5 => ?_)
      refine tl_g (fun h6 => ?_)
      refine tl_bd1 (t_pM_pairs (ja_sub (ja_add (ja_mul jlitI_12 (Eq.refl (mI a1)) h1) (Eq.refl (mI x3)) h2) jlitI_1 h3) (ja_sub (ja_add (ja_mul jlitI_12 (Eq.refl (mI a2)) h4) (Eq.refl (mI x4)) h5) jlitI_1 h6) (Eq.refl (mI v_grain)) (Eq.refl (mA v_cutAt)) (Eq.refl (mA v_cutWorth))) (fun rc7 => ?_)
      refine tl_ite (jc_eq (Eq.refl (mI rc7)) jlitI_0) ?_ ?_
      · exact (t_pM_fitOf_b236 (Eq.refl N) (Eq.refl (mI a1)) (Eq.refl (mI a2)) (Eq.refl (mI v_grain)) (Eq.refl (mI v_lost)) (Eq.refl (mA v_cutAt)) (Eq.refl (mA v_cutWorth)) (Eq.refl (mA v_cuts)) t_self t_k256 (Eq.refl (mI x3)) (Eq.refl (mI x4)) (Eq.refl (mI x5)) (Eq.refl (mA v_cost)))
      · refine tl_g (fun h7 => ?_)
        refine tl_g (fun h8 => ?_)
        refine tl_g (fun h9 => ?_)
        refine tl_g (fun h10 => ?_)
        refine tl_gd (jg_ib (ja_sub (ja_add (ja_mul jlitI_13 (ja_sub (Eq.refl (mI x3)) jlitI_1 h7) h8) (Eq.refl (mI x4)) h9) jlitI_1 h10)) (fun _ => ?_)
        refine tl_gd (jg_ib (ja_sub (ja_add (ja_mul jlitI_12 (Eq.refl (mI a1)) h1) (Eq.refl (mI x3)) h2) jlitI_1 h3)) (fun _ => ?_)
        refine tl_gd (jg_ib (ja_sub (ja_add (ja_mul jlitI_12 (Eq.refl (mI a2)) h4) (Eq.refl (mI x4)) h5) jlitI_1 h6)) (fun _ => ?_)
        refine tl_g (fun h11 => ?_)
        refine tl_bd1 (t_pM_size (ja_sub (jrd (Eq.refl (mA v_cutAt)) (jx (ja_sub (ja_add (ja_mul jlitI_12 (Eq.refl (mI a1)) h1) (Eq.refl (mI x3)) h2) jlitI_1 h3))) (jrd (Eq.refl (mA v_cutAt)) (jx (ja_sub (ja_add (ja_mul jlitI_12 (Eq.refl (mI a2)) h4) (Eq.refl (mI x4)) h5) jlitI_1 h6))) h11)) (fun rc11 => ?_)
        refine tl_g (fun h12 => ?_)
        refine tl_ite (jc_le (Eq.refl (mI x5)) (ja_add (jrd (Eq.refl (mA v_cost)) (jx (ja_sub (ja_add (ja_mul jlitI_13 (ja_sub (Eq.refl (mI x3)) jlitI_1 h7) h8) (Eq.refl (mI x4)) h9) jlitI_1 h10))) (Eq.refl (mI rc11)) h12)) ?_ ?_
        · exact (t_pM_fitOf_b236 (Eq.refl N) (Eq.refl (mI a1)) (Eq.refl (mI a2)) (Eq.refl (mI v_grain)) (Eq.refl (mI v_lost)) (Eq.refl (mA v_cutAt)) (Eq.refl (mA v_cutWorth)) (Eq.refl (mA v_cuts)) t_self t_k256 (Eq.refl (mI x3)) (Eq.refl (mI x4)) (Eq.refl (mI x5)) (Eq.refl (mA v_cost)))
        · exact (t_pM_fitOf_b236 (Eq.refl N) (Eq.refl (mI a1)) (Eq.refl (mI a2)) (Eq.refl (mI v_grain)) (Eq.refl (mI v_lost)) (Eq.refl (mA v_cutAt)) (Eq.refl (mA v_cutWorth)) (Eq.refl (mA v_cuts)) t_self t_k256 (Eq.refl (mI x3)) (Eq.refl (mI x4)) (ja_add (jrd (Eq.refl (mA v_cost)) (jx (ja_sub (ja_add (ja_mul jlitI_13 (ja_sub (Eq.refl (mI x3)) jlitI_1 h7) h8) (Eq.refl (mI x4)) h9) jlitI_1 h10))) (Eq.refl (mI rc11)) h12) (Eq.refl (mA v_cost)))
theorem t_pM_fitOf_b92 {N N_j : Nat} (t_N : N = N_j) {a1 : Int32} {a1_j : Int} (t_a1 : mI a1 = a1_j) {a2 : Int32} {a2_j : Int} (t_a2 : mI a2 = a2_j) {v_grain : Int32} {v_grain_j : Int} (t_v_grain : mI v_grain = v_grain_j) {v_lost : Int32} {v_lost_j : Int} (t_v_lost : mI v_lost = v_lost_j) {v_cutAt : (Nat → Int32)} {v_cutAt_j : (Nat → Int)} (t_v_cutAt : mA v_cutAt = v_cutAt_j) {v_cutWorth : (Nat → Int32)} {v_cutWorth_j : (Nat → Int)} (t_v_cutWorth : mA v_cutWorth = v_cutWorth_j) {v_cuts : (Nat → Int32)} {v_cuts_j : (Nat → Int)} (t_v_cuts : mA v_cuts = v_cuts_j) {self : Int32 → (Nat → Int32) → Option R_pM_fitOf} {self_j : Int → (Nat → Int) → Option R_iM_fitOf} (t_self : ∀ (q0_ : Int32) (q1_ : (Nat → Int32)), tl (mP mI mA) (self_j (mI q0_) (mA q1_)) (self q0_ q1_)) {k256 : (Nat → Int32) → Option R_pM_fitOf} {k256_j : (Nat → Int) → Option R_iM_fitOf} (t_k256 : ∀ (q0_ : (Nat → Int32)), tl (mP mI mA) (k256_j (mA q0_)) (k256 q0_)) {x3 : Int32} {x3_j : Int} (t_x3 : mI x3 = x3_j) {x4 : Int32} {x4_j : Int} (t_x4 : mI x4 = x4_j) {x5 : Int32} {x5_j : Int} (t_x5 : mI x5 = x5_j) {v_cost : (Nat → Int32)} {v_cost_j : (Nat → Int)} (t_v_cost : mA v_cost = v_cost_j) : tl (mP mI mA) (iM_fitOf_b92 N_j a1_j a2_j v_grain_j v_lost_j v_cutAt_j v_cutWorth_j v_cuts_j self_j k256_j x3_j x4_j x5_j v_cost_j) (pM_fitOf_b92 N a1 a2 v_grain v_lost v_cutAt v_cutWorth v_cuts self k256 x3 x4 x5 v_cost) := by
  subst t_N
  subst t_a1
  subst t_a2
  subst t_v_grain
  subst t_v_lost
  subst t_v_cutAt
  subst t_v_cutWorth
  subst t_v_cuts
  subst t_x3
  subst t_x4
  subst t_x5
  subst t_v_cost
  unfold iM_fitOf_b92 pM_fitOf_b92
  refine tl_ite (jc_le (Eq.refl (mI x4)) jlitI_0) ?_ ?_
  · exact (t_pM_fitOf_b142 (Eq.refl N) (Eq.refl (mI a1)) (Eq.refl (mI a2)) (Eq.refl (mI v_grain)) (Eq.refl (mI v_lost)) (Eq.refl (mA v_cutAt)) (Eq.refl (mA v_cutWorth)) (Eq.refl (mA v_cuts)) t_self t_k256 (Eq.refl (mI x3)) (Eq.refl (mI x4)) (Eq.refl (mI x5)) (Eq.refl (mA v_cost)))
  · refine tl_g (fun h1 => ?_)
    refine tl_g (fun h2 => ?_)
    refine tl_g (fun h3 => ?_)
    refine tl_gd (jg_ib (ja_sub (ja_add (ja_mul jlitI_13 (Eq.refl (mI x3)) h1) (Eq.refl (mI x4)) h2) jlitI_1 h3)) (fun _ => ?_)
    refine tl_g (fun h4 => ?_)
    refine tl_ite (jc_le (Eq.refl (mI x5)) (ja_add (jrd (Eq.refl (mA v_cost)) (jx (ja_sub (ja_add (ja_mul jlitI_13 (Eq.refl (mI x3)) h1) (Eq.refl (mI x4)) h2) jlitI_1 h3))) (Eq.refl (mI v_lost)) h4)) ?_ ?_
    · exact (t_pM_fitOf_b142 (Eq.refl N) (Eq.refl (mI a1)) (Eq.refl (mI a2)) (Eq.refl (mI v_grain)) (Eq.refl (mI v_lost)) (Eq.refl (mA v_cutAt)) (Eq.refl (mA v_cutWorth)) (Eq.refl (mA v_cuts)) t_self t_k256 (Eq.refl (mI x3)) (Eq.refl (mI x4)) (Eq.refl (mI x5)) (Eq.refl (mA v_cost)))
    · exact (t_pM_fitOf_b142 (Eq.refl N) (Eq.refl (mI a1)) (Eq.refl (mI a2)) (Eq.refl (mI v_grain)) (Eq.refl (mI v_lost)) (Eq.refl (mA v_cutAt)) (Eq.refl (mA v_cutWorth)) (Eq.refl (mA v_cuts)) t_self t_k256 (Eq.refl (mI x3)) (Eq.refl (mI x4)) (ja_add (jrd (Eq.refl (mA v_cost)) (jx (ja_sub (ja_add (ja_mul jlitI_13 (Eq.refl (mI x3)) h1) (Eq.refl (mI x4)) h2) jlitI_1 h3))) (Eq.refl (mI v_lost)) h4) (Eq.refl (mA v_cost)))
theorem t_pM_fitOf_b41 {N N_j : Nat} (t_N : N = N_j) {a1 : Int32} {a1_j : Int} (t_a1 : mI a1 = a1_j) {a2 : Int32} {a2_j : Int} (t_a2 : mI a2 = a2_j) {v_grain : Int32} {v_grain_j : Int} (t_v_grain : mI v_grain = v_grain_j) {v_lost : Int32} {v_lost_j : Int} (t_v_lost : mI v_lost = v_lost_j) {v_cutAt : (Nat → Int32)} {v_cutAt_j : (Nat → Int)} (t_v_cutAt : mA v_cutAt = v_cutAt_j) {v_cutWorth : (Nat → Int32)} {v_cutWorth_j : (Nat → Int)} (t_v_cutWorth : mA v_cutWorth = v_cutWorth_j) {v_cuts : (Nat → Int32)} {v_cuts_j : (Nat → Int)} (t_v_cuts : mA v_cuts = v_cuts_j) {self : Int32 → (Nat → Int32) → Option R_pM_fitOf} {self_j : Int → (Nat → Int) → Option R_iM_fitOf} (t_self : ∀ (q0_ : Int32) (q1_ : (Nat → Int32)), tl (mP mI mA) (self_j (mI q0_) (mA q1_)) (self q0_ q1_)) {k256 : (Nat → Int32) → Option R_pM_fitOf} {k256_j : (Nat → Int) → Option R_iM_fitOf} (t_k256 : ∀ (q0_ : (Nat → Int32)), tl (mP mI mA) (k256_j (mA q0_)) (k256 q0_)) {x3 : Int32} {x3_j : Int} (t_x3 : mI x3 = x3_j) {x4 : Int32} {x4_j : Int} (t_x4 : mI x4 = x4_j) {s0 : Int32} {s0_j : Int} (t_s0 : mI s0 = s0_j) {v_cost : (Nat → Int32)} {v_cost_j : (Nat → Int)} (t_v_cost : mA v_cost = v_cost_j) : tl (mP mI mA) (iM_fitOf_b41 N_j a1_j a2_j v_grain_j v_lost_j v_cutAt_j v_cutWorth_j v_cuts_j self_j k256_j x3_j x4_j s0_j v_cost_j) (pM_fitOf_b41 N a1 a2 v_grain v_lost v_cutAt v_cutWorth v_cuts self k256 x3 x4 s0 v_cost) := by
  subst t_N
  subst t_a1
  subst t_a2
  subst t_v_grain
  subst t_v_lost
  subst t_v_cutAt
  subst t_v_cutWorth
  subst t_v_cuts
  subst t_x3
  subst t_x4
  subst t_s0
  subst t_v_cost
  unfold iM_fitOf_b41 pM_fitOf_b41
  refine tl_ite (jc_le (Eq.refl (mI x3)) jlitI_0) ?_ ?_
  · exact (t_pM_fitOf_b92 (Eq.refl N) (Eq.refl (mI a1)) (Eq.refl (mI a2)) (Eq.refl (mI v_grain)) (Eq.refl (mI v_lost)) (Eq.refl (mA v_cutAt)) (Eq.refl (mA v_cutWorth)) (Eq.refl (mA v_cuts)) t_self t_k256 (Eq.refl (mI x3)) (Eq.refl (mI x4)) (Eq.refl (mI s0)) (Eq.refl (mA v_cost)))
  · refine tl_g (fun h1 => ?_)
    refine tl_g (fun h2 => ?_)
    refine tl_g (fun h3 => ?_)
    refine tl_gd (jg_ib (ja_add (ja_mul jlitI_13 (ja_sub (Eq.refl (mI x3)) jlitI_1 h1) h2) (Eq.refl (mI x4)) h3)) (fun _ => ?_)
    refine tl_g (fun h4 => ?_)
    refine tl_ite (jc_le (Eq.refl (mI s0)) (ja_add (jrd (Eq.refl (mA v_cost)) (jx (ja_add (ja_mul jlitI_13 (ja_sub (Eq.refl (mI x3)) jlitI_1 h1) h2) (Eq.refl (mI x4)) h3))) (Eq.refl (mI v_lost)) h4)) ?_ ?_
    · exact (t_pM_fitOf_b92 (Eq.refl N) (Eq.refl (mI a1)) (Eq.refl (mI a2)) (Eq.refl (mI v_grain)) (Eq.refl (mI v_lost)) (Eq.refl (mA v_cutAt)) (Eq.refl (mA v_cutWorth)) (Eq.refl (mA v_cuts)) t_self t_k256 (Eq.refl (mI x3)) (Eq.refl (mI x4)) (Eq.refl (mI s0)) (Eq.refl (mA v_cost)))
    · exact (t_pM_fitOf_b92 (Eq.refl N) (Eq.refl (mI a1)) (Eq.refl (mI a2)) (Eq.refl (mI v_grain)) (Eq.refl (mI v_lost)) (Eq.refl (mA v_cutAt)) (Eq.refl (mA v_cutWorth)) (Eq.refl (mA v_cuts)) t_self t_k256 (Eq.refl (mI x3)) (Eq.refl (mI x4)) (ja_add (jrd (Eq.refl (mA v_cost)) (jx (ja_add (ja_mul jlitI_13 (ja_sub (Eq.refl (mI x3)) jlitI_1 h1) h2) (Eq.refl (mI x4)) h3))) (Eq.refl (mI v_lost)) h4) (Eq.refl (mA v_cost)))
theorem t_pM_fitOf_b39 {N N_j : Nat} (t_N : N = N_j) {a1 : Int32} {a1_j : Int} (t_a1 : mI a1 = a1_j) {a2 : Int32} {a2_j : Int} (t_a2 : mI a2 = a2_j) {v_grain : Int32} {v_grain_j : Int} (t_v_grain : mI v_grain = v_grain_j) {v_lost : Int32} {v_lost_j : Int} (t_v_lost : mI v_lost = v_lost_j) {v_cutAt : (Nat → Int32)} {v_cutAt_j : (Nat → Int)} (t_v_cutAt : mA v_cutAt = v_cutAt_j) {v_cutWorth : (Nat → Int32)} {v_cutWorth_j : (Nat → Int)} (t_v_cutWorth : mA v_cutWorth = v_cutWorth_j) {v_cuts : (Nat → Int32)} {v_cuts_j : (Nat → Int)} (t_v_cuts : mA v_cuts = v_cuts_j) {self : Int32 → (Nat → Int32) → Option R_pM_fitOf} {self_j : Int → (Nat → Int) → Option R_iM_fitOf} (t_self : ∀ (q0_ : Int32) (q1_ : (Nat → Int32)), tl (mP mI mA) (self_j (mI q0_) (mA q1_)) (self q0_ q1_)) {k256 : (Nat → Int32) → Option R_pM_fitOf} {k256_j : (Nat → Int) → Option R_iM_fitOf} (t_k256 : ∀ (q0_ : (Nat → Int32)), tl (mP mI mA) (k256_j (mA q0_)) (k256 q0_)) {x3 : Int32} {x3_j : Int} (t_x3 : mI x3 = x3_j) {x4 : Int32} {x4_j : Int} (t_x4 : mI x4 = x4_j) {v_cost : (Nat → Int32)} {v_cost_j : (Nat → Int)} (t_v_cost : mA v_cost = v_cost_j) : tl (mP mI mA) (iM_fitOf_b39 N_j a1_j a2_j v_grain_j v_lost_j v_cutAt_j v_cutWorth_j v_cuts_j self_j k256_j x3_j x4_j v_cost_j) (pM_fitOf_b39 N a1 a2 v_grain v_lost v_cutAt v_cutWorth v_cuts self k256 x3 x4 v_cost) := by
  subst t_N
  subst t_a1
  subst t_a2
  subst t_v_grain
  subst t_v_lost
  subst t_v_cutAt
  subst t_v_cutWorth
  subst t_v_cuts
  subst t_x3
  subst t_x4
  subst t_v_cost
  unfold iM_fitOf_b39 pM_fitOf_b39
  exact (t_pM_fitOf_b41 (Eq.refl N) (Eq.refl (mI a1)) (Eq.refl (mI a2)) (Eq.refl (mI v_grain)) (Eq.refl (mI v_lost)) (Eq.refl (mA v_cutAt)) (Eq.refl (mA v_cutWorth)) (Eq.refl (mA v_cuts)) t_self t_k256 (Eq.refl (mI x3)) (Eq.refl (mI x4)) jlitI_100000000 (Eq.refl (mA v_cost)))
theorem t_pM_fitOf_b15_F {N N_j : Nat} (t_N : N = N_j) {a1 : Int32} {a1_j : Int} (t_a1 : mI a1 = a1_j) {a2 : Int32} {a2_j : Int} (t_a2 : mI a2 = a2_j) {v_grain : Int32} {v_grain_j : Int} (t_v_grain : mI v_grain = v_grain_j) {v_lost : Int32} {v_lost_j : Int} (t_v_lost : mI v_lost = v_lost_j) {v_cutAt : (Nat → Int32)} {v_cutAt_j : (Nat → Int)} (t_v_cutAt : mA v_cutAt = v_cutAt_j) {v_cutWorth : (Nat → Int32)} {v_cutWorth_j : (Nat → Int)} (t_v_cutWorth : mA v_cutWorth = v_cutWorth_j) {v_cuts : (Nat → Int32)} {v_cuts_j : (Nat → Int)} (t_v_cuts : mA v_cuts = v_cuts_j) {x3 : Int32} {x3_j : Int} (t_x3 : mI x3 = x3_j) {k256 : (Nat → Int32) → Option R_pM_fitOf} {k256_j : (Nat → Int) → Option R_iM_fitOf} (t_k256 : ∀ (q0_ : (Nat → Int32)), tl (mP mI mA) (k256_j (mA q0_)) (k256 q0_)) {self : Int32 → (Nat → Int32) → Option R_pM_fitOf} {self_j : Int → (Nat → Int) → Option R_iM_fitOf} (t_self : ∀ (q0_ : Int32) (q1_ : (Nat → Int32)), tl (mP mI mA) (self_j (mI q0_) (mA q1_)) (self q0_ q1_)) {x4 : Int32} {x4_j : Int} (t_x4 : mI x4 = x4_j) {v_cost : (Nat → Int32)} {v_cost_j : (Nat → Int)} (t_v_cost : mA v_cost = v_cost_j) : tl (mP mI mA) (iM_fitOf_b15_F N_j a1_j a2_j v_grain_j v_lost_j v_cutAt_j v_cutWorth_j v_cuts_j x3_j k256_j self_j x4_j v_cost_j) (pM_fitOf_b15_F N a1 a2 v_grain v_lost v_cutAt v_cutWorth v_cuts x3 k256 self x4 v_cost) := by
  subst t_N
  subst t_a1
  subst t_a2
  subst t_v_grain
  subst t_v_lost
  subst t_v_cutAt
  subst t_v_cutWorth
  subst t_v_cuts
  subst t_x3
  subst t_x4
  subst t_v_cost
  unfold iM_fitOf_b15_F pM_fitOf_b15_F
  refine tl_gd (jg_ib (Eq.refl (mI a2))) (fun _ => ?_)
  refine tl_ite (jc_lt (jrd (Eq.refl (mA v_cuts)) (jx (Eq.refl (mI a2)))) (Eq.refl (mI x4))) ?_ ?_
  · exact (tl_e1 (Eq.refl (mA v_cost)) (t_k256 _))
  · refine tl_ite (jc_eq (Eq.refl (mI x3)) jlitI_0) ?_ ?_
    · refine tl_ite (jc_eq (Eq.refl (mI x4)) jlitI_0) ?_ ?_
      · exact (t_pM_fitOf_b41 (Eq.refl N) (Eq.refl (mI a1)) (Eq.refl (mI a2)) (Eq.refl (mI v_grain)) (Eq.refl (mI v_lost)) (Eq.refl (mA v_cutAt)) (Eq.refl (mA v_cutWorth)) (Eq.refl (mA v_cuts)) t_self t_k256 (Eq.refl (mI x3)) (Eq.refl (mI x4)) jlitI_0 (Eq.refl (mA v_cost)))
      · exact (t_pM_fitOf_b39 (Eq.refl N) (Eq.refl (mI a1)) (Eq.refl (mI a2)) (Eq.refl (mI v_grain)) (Eq.refl (mI v_lost)) (Eq.refl (mA v_cutAt)) (Eq.refl (mA v_cutWorth)) (Eq.refl (mA v_cuts)) t_self t_k256 (Eq.refl (mI x3)) (Eq.refl (mI x4)) (Eq.refl (mA v_cost)))
    · exact (t_pM_fitOf_b39 (Eq.refl N) (Eq.refl (mI a1)) (Eq.refl (mI a2)) (Eq.refl (mI v_grain)) (Eq.refl (mI v_lost)) (Eq.refl (mA v_cutAt)) (Eq.refl (mA v_cutWorth)) (Eq.refl (mA v_cuts)) t_self t_k256 (Eq.refl (mI x3)) (Eq.refl (mI x4)) (Eq.refl (mA v_cost)))
theorem t_pM_fitOf_b15 {N N_j : Nat} (t_N : N = N_j) {a1 : Int32} {a1_j : Int} (t_a1 : mI a1 = a1_j) {a2 : Int32} {a2_j : Int} (t_a2 : mI a2 = a2_j) {v_grain : Int32} {v_grain_j : Int} (t_v_grain : mI v_grain = v_grain_j) {v_lost : Int32} {v_lost_j : Int} (t_v_lost : mI v_lost = v_lost_j) {v_cutAt : (Nat → Int32)} {v_cutAt_j : (Nat → Int)} (t_v_cutAt : mA v_cutAt = v_cutAt_j) {v_cutWorth : (Nat → Int32)} {v_cutWorth_j : (Nat → Int)} (t_v_cutWorth : mA v_cutWorth = v_cutWorth_j) {v_cuts : (Nat → Int32)} {v_cuts_j : (Nat → Int)} (t_v_cuts : mA v_cuts = v_cuts_j) {x3 : Int32} {x3_j : Int} (t_x3 : mI x3 = x3_j) {k256 : (Nat → Int32) → Option R_pM_fitOf} {k256_j : (Nat → Int) → Option R_iM_fitOf} (t_k256 : ∀ (q0_ : (Nat → Int32)), tl (mP mI mA) (k256_j (mA q0_)) (k256 q0_)) {n n_j : Nat} (t_n : n = n_j) {w0_ : Int32} {w0__j : Int} (t_w0_ : mI w0_ = w0__j) {w1_ : (Nat → Int32)} {w1__j : (Nat → Int)} (t_w1_ : mA w1_ = w1__j) : tl (mP mI mA) (iM_fitOf_b15 N_j a1_j a2_j v_grain_j v_lost_j v_cutAt_j v_cutWorth_j v_cuts_j x3_j k256_j n_j w0__j w1__j) (pM_fitOf_b15 N a1 a2 v_grain v_lost v_cutAt v_cutWorth v_cuts x3 k256 n w0_ w1_) := by
  subst t_N
  subst t_a1
  subst t_a2
  subst t_v_grain
  subst t_v_lost
  subst t_v_cutAt
  subst t_v_cutWorth
  subst t_v_cuts
  subst t_x3
  subst t_n
  subst t_w0_
  subst t_w1_
  exact tl_zlp2 (fun s2 s hs w0_ w1_ => t_pM_fitOf_b15_F (Eq.refl N) (Eq.refl (mI a1)) (Eq.refl (mI a2)) (Eq.refl (mI v_grain)) (Eq.refl (mI v_lost)) (Eq.refl (mA v_cutAt)) (Eq.refl (mA v_cutWorth)) (Eq.refl (mA v_cuts)) (Eq.refl (mI x3)) t_k256 hs (Eq.refl (mI w0_)) (Eq.refl (mA w1_))) n w0_ w1_
theorem t_pM_fitOf_b256 {N N_j : Nat} (t_N : N = N_j) {a1 : Int32} {a1_j : Int} (t_a1 : mI a1 = a1_j) {a2 : Int32} {a2_j : Int} (t_a2 : mI a2 = a2_j) {v_grain : Int32} {v_grain_j : Int} (t_v_grain : mI v_grain = v_grain_j) {v_lost : Int32} {v_lost_j : Int} (t_v_lost : mI v_lost = v_lost_j) {v_cutAt : (Nat → Int32)} {v_cutAt_j : (Nat → Int)} (t_v_cutAt : mA v_cutAt = v_cutAt_j) {v_cutWorth : (Nat → Int32)} {v_cutWorth_j : (Nat → Int)} (t_v_cutWorth : mA v_cutWorth = v_cutWorth_j) {v_cuts : (Nat → Int32)} {v_cuts_j : (Nat → Int)} (t_v_cuts : mA v_cuts = v_cuts_j) {self : Int32 → (Nat → Int32) → Option R_pM_fitOf} {self_j : Int → (Nat → Int) → Option R_iM_fitOf} (t_self : ∀ (q0_ : Int32) (q1_ : (Nat → Int32)), tl (mP mI mA) (self_j (mI q0_) (mA q1_)) (self q0_ q1_)) {x3 : Int32} {x3_j : Int} (t_x3 : mI x3 = x3_j) {v_cost : (Nat → Int32)} {v_cost_j : (Nat → Int)} (t_v_cost : mA v_cost = v_cost_j) : tl (mP mI mA) (iM_fitOf_b256 N_j a1_j a2_j v_grain_j v_lost_j v_cutAt_j v_cutWorth_j v_cuts_j self_j x3_j v_cost_j) (pM_fitOf_b256 N a1 a2 v_grain v_lost v_cutAt v_cutWorth v_cuts self x3 v_cost) := by
  subst t_N
  subst t_a1
  subst t_a2
  subst t_v_grain
  subst t_v_lost
  subst t_v_cutAt
  subst t_v_cutWorth
  subst t_v_cuts
  subst t_x3
  subst t_v_cost
  unfold iM_fitOf_b256 pM_fitOf_b256
  refine tl_g (fun h1 => ?_)
  exact (tl_e2 (ja_add (Eq.refl (mI x3)) jlitI_1 h1) (Eq.refl (mA v_cost)) (t_self _ _))
theorem t_pM_fitOf_b2_F {N N_j : Nat} (t_N : N = N_j) {a1 : Int32} {a1_j : Int} (t_a1 : mI a1 = a1_j) {a2 : Int32} {a2_j : Int} (t_a2 : mI a2 = a2_j) {v_grain : Int32} {v_grain_j : Int} (t_v_grain : mI v_grain = v_grain_j) {v_lost : Int32} {v_lost_j : Int} (t_v_lost : mI v_lost = v_lost_j) {v_cutAt : (Nat → Int32)} {v_cutAt_j : (Nat → Int)} (t_v_cutAt : mA v_cutAt = v_cutAt_j) {v_cutWorth : (Nat → Int32)} {v_cutWorth_j : (Nat → Int)} (t_v_cutWorth : mA v_cutWorth = v_cutWorth_j) {v_cuts : (Nat → Int32)} {v_cuts_j : (Nat → Int)} (t_v_cuts : mA v_cuts = v_cuts_j) {self : Int32 → (Nat → Int32) → Option R_pM_fitOf} {self_j : Int → (Nat → Int) → Option R_iM_fitOf} (t_self : ∀ (q0_ : Int32) (q1_ : (Nat → Int32)), tl (mP mI mA) (self_j (mI q0_) (mA q1_)) (self q0_ q1_)) {x3 : Int32} {x3_j : Int} (t_x3 : mI x3 = x3_j) {v_cost : (Nat → Int32)} {v_cost_j : (Nat → Int)} (t_v_cost : mA v_cost = v_cost_j) : tl (mP mI mA) (iM_fitOf_b2_F N_j a1_j a2_j v_grain_j v_lost_j v_cutAt_j v_cutWorth_j v_cuts_j self_j x3_j v_cost_j) (pM_fitOf_b2_F N a1 a2 v_grain v_lost v_cutAt v_cutWorth v_cuts self x3 v_cost) := by
  subst t_N
  subst t_a1
  subst t_a2
  subst t_v_grain
  subst t_v_lost
  subst t_v_cutAt
  subst t_v_cutWorth
  subst t_v_cuts
  subst t_x3
  subst t_v_cost
  unfold iM_fitOf_b2_F pM_fitOf_b2_F
  refine tl_gd (jg_ib (Eq.refl (mI a1))) (fun _ => ?_)
  refine tl_ite (jc_lt (jrd (Eq.refl (mA v_cuts)) (jx (Eq.refl (mI a1)))) (Eq.refl (mI x3))) ?_ ?_
  · refine tl_gd (jg_ib (Eq.refl (mI a2))) (fun _ => ?_)
    refine tl_g (fun h1 => ?_)
    refine tl_g (fun h2 => ?_)
    refine tl_gd (jg_ib (ja_add (ja_mul jlitI_13 (jrd (Eq.refl (mA v_cuts)) (jx (Eq.refl (mI a1)))) h1) (jrd (Eq.refl (mA v_cuts)) (jx (Eq.refl (mI a2)))) h2)) (fun _ => ?_)
    exact (tl_some (jp2 (jrd (Eq.refl (mA v_cost)) (jx (ja_add (ja_mul jlitI_13 (jrd (Eq.refl (mA v_cuts)) (jx (Eq.refl (mI a1)))) h1) (jrd (Eq.refl (mA v_cuts)) (jx (Eq.refl (mI a2)))) h2))) (Eq.refl (mA v_cost))))
  · exact (t_pM_fitOf_b15 (Eq.refl N) (Eq.refl (mI a1)) (Eq.refl (mI a2)) (Eq.refl (mI v_grain)) (Eq.refl (mI v_lost)) (Eq.refl (mA v_cutAt)) (Eq.refl (mA v_cutWorth)) (Eq.refl (mA v_cuts)) (Eq.refl (mI x3)) (fun e10_ => by exact (t_pM_fitOf_b256 (Eq.refl N) (Eq.refl (mI a1)) (Eq.refl (mI a2)) (Eq.refl (mI v_grain)) (Eq.refl (mI v_lost)) (Eq.refl (mA v_cutAt)) (Eq.refl (mA v_cutWorth)) (Eq.refl (mA v_cuts)) t_self (Eq.refl (mI x3)) (Eq.refl (mA e10_)))) (Eq.refl N) jlitI_0 (Eq.refl (mA v_cost)))
theorem t_pM_fitOf_b2 {N N_j : Nat} (t_N : N = N_j) {a1 : Int32} {a1_j : Int} (t_a1 : mI a1 = a1_j) {a2 : Int32} {a2_j : Int} (t_a2 : mI a2 = a2_j) {v_grain : Int32} {v_grain_j : Int} (t_v_grain : mI v_grain = v_grain_j) {v_lost : Int32} {v_lost_j : Int} (t_v_lost : mI v_lost = v_lost_j) {v_cutAt : (Nat → Int32)} {v_cutAt_j : (Nat → Int)} (t_v_cutAt : mA v_cutAt = v_cutAt_j) {v_cutWorth : (Nat → Int32)} {v_cutWorth_j : (Nat → Int)} (t_v_cutWorth : mA v_cutWorth = v_cutWorth_j) {v_cuts : (Nat → Int32)} {v_cuts_j : (Nat → Int)} (t_v_cuts : mA v_cuts = v_cuts_j) {n n_j : Nat} (t_n : n = n_j) {w0_ : Int32} {w0__j : Int} (t_w0_ : mI w0_ = w0__j) {w1_ : (Nat → Int32)} {w1__j : (Nat → Int)} (t_w1_ : mA w1_ = w1__j) : tl (mP mI mA) (iM_fitOf_b2 N_j a1_j a2_j v_grain_j v_lost_j v_cutAt_j v_cutWorth_j v_cuts_j n_j w0__j w1__j) (pM_fitOf_b2 N a1 a2 v_grain v_lost v_cutAt v_cutWorth v_cuts n w0_ w1_) := by
  subst t_N
  subst t_a1
  subst t_a2
  subst t_v_grain
  subst t_v_lost
  subst t_v_cutAt
  subst t_v_cutWorth
  subst t_v_cuts
  subst t_n
  subst t_w0_
  subst t_w1_
  exact tl_zlp2 (fun s2 s hs w0_ w1_ => t_pM_fitOf_b2_F (Eq.refl N) (Eq.refl (mI a1)) (Eq.refl (mI a2)) (Eq.refl (mI v_grain)) (Eq.refl (mI v_lost)) (Eq.refl (mA v_cutAt)) (Eq.refl (mA v_cutWorth)) (Eq.refl (mA v_cuts)) hs (Eq.refl (mI w0_)) (Eq.refl (mA w1_))) n w0_ w1_
theorem t_pM_fitOf {N N_j : Nat} (t_N : N = N_j) {a1 : Int32} {a1_j : Int} (t_a1 : mI a1 = a1_j) {a2 : Int32} {a2_j : Int} (t_a2 : mI a2 = a2_j) {v_grain : Int32} {v_grain_j : Int} (t_v_grain : mI v_grain = v_grain_j) {v_lost : Int32} {v_lost_j : Int} (t_v_lost : mI v_lost = v_lost_j) {v_cost : (Nat → Int32)} {v_cost_j : (Nat → Int)} (t_v_cost : mA v_cost = v_cost_j) {v_cutAt : (Nat → Int32)} {v_cutAt_j : (Nat → Int)} (t_v_cutAt : mA v_cutAt = v_cutAt_j) {v_cutWorth : (Nat → Int32)} {v_cutWorth_j : (Nat → Int)} (t_v_cutWorth : mA v_cutWorth = v_cutWorth_j) {v_cuts : (Nat → Int32)} {v_cuts_j : (Nat → Int)} (t_v_cuts : mA v_cuts = v_cuts_j) : tl (mP mI mA) (iM_fitOf N_j a1_j a2_j v_grain_j v_lost_j v_cost_j v_cutAt_j v_cutWorth_j v_cuts_j) (pM_fitOf N a1 a2 v_grain v_lost v_cost v_cutAt v_cutWorth v_cuts) := by
  subst t_N
  subst t_a1
  subst t_a2
  subst t_v_grain
  subst t_v_lost
  subst t_v_cost
  subst t_v_cutAt
  subst t_v_cutWorth
  subst t_v_cuts
  unfold iM_fitOf pM_fitOf
  exact (t_pM_fitOf_b2 (Eq.refl N) (Eq.refl (mI a1)) (Eq.refl (mI a2)) (Eq.refl (mI v_grain)) (Eq.refl (mI v_lost)) (Eq.refl (mA v_cutAt)) (Eq.refl (mA v_cutWorth)) (Eq.refl (mA v_cuts)) (Eq.refl N) jlitI_0 (Eq.refl (mA v_cost)))
theorem t_pM_fit {N N_j : Nat} (t_N : N = N_j) {a1 : Int32} {a1_j : Int} (t_a1 : mI a1 = a1_j) {a2 : Int32} {a2_j : Int} (t_a2 : mI a2 = a2_j) {v_grain : Int32} {v_grain_j : Int} (t_v_grain : mI v_grain = v_grain_j) {v_lost : Int32} {v_lost_j : Int} (t_v_lost : mI v_lost = v_lost_j) {v_cost : (Nat → Int32)} {v_cost_j : (Nat → Int)} (t_v_cost : mA v_cost = v_cost_j) {v_cutAt : (Nat → Int32)} {v_cutAt_j : (Nat → Int)} (t_v_cutAt : mA v_cutAt = v_cutAt_j) {v_cutWorth : (Nat → Int32)} {v_cutWorth_j : (Nat → Int)} (t_v_cutWorth : mA v_cutWorth = v_cutWorth_j) {v_cuts : (Nat → Int32)} {v_cuts_j : (Nat → Int)} (t_v_cuts : mA v_cuts = v_cuts_j) : tl (mP mI mA) (iM_fit N_j a1_j a2_j v_grain_j v_lost_j v_cost_j v_cutAt_j v_cutWorth_j v_cuts_j) (pM_fit N a1 a2 v_grain v_lost v_cost v_cutAt v_cutWorth v_cuts) := by
  subst t_N
  subst t_a1
  subst t_a2
  subst t_v_grain
  subst t_v_lost
  subst t_v_cost
  subst t_v_cutAt
  subst t_v_cutWorth
  subst t_v_cuts
  unfold iM_fit pM_fit
  refine tl_bd1 (t_pM_half jlitI_0 (Eq.refl (mI a1))) (fun rc1 => ?_)
  refine tl_bd1 (t_pM_half jlitI_1 (Eq.refl (mI a2))) (fun rc2 => ?_)
  refine tl_bd1 (t_pM_isThere (Eq.refl (mI rc1)) (Eq.refl (mA v_cuts))) (fun rc3 => ?_)
  refine tl_ite (jc_eq (Eq.refl (mI rc3)) jlitI_0) ?_ ?_
  · exact (tl_some (jp2 jlitI_m1 (Eq.refl (mA v_cost))))
  · refine tl_bd1 (t_pM_isThere (Eq.refl (mI rc2)) (Eq.refl (mA v_cuts))) (fun rc4 => ?_)
    refine tl_ite (jc_eq (Eq.refl (mI rc4)) jlitI_0) ?_ ?_
    · exact (tl_some (jp2 jlitI_m1 (Eq.refl (mA v_cost))))
    · refine tl_bd2 (t_pM_fitOf (Eq.refl N) (Eq.refl (mI rc1)) (Eq.refl (mI rc2)) (Eq.refl (mI v_grain)) (Eq.refl (mI v_lost)) (Eq.refl (mA v_cost)) (Eq.refl (mA v_cutAt)) (Eq.refl (mA v_cutWorth)) (Eq.refl (mA v_cuts))) (fun rc5 v_cost_c5 => ?_)
      exact (tl_some (jp2 (Eq.refl (mI rc5)) (Eq.refl (mA v_cost_c5))))
theorem t_pM_canPair {a1 : Int32} {a1_j : Int} (t_a1 : mI a1 = a1_j) {a2 : Int32} {a2_j : Int} (t_a2 : mI a2 = a2_j) {a3 : Int32} {a3_j : Int} (t_a3 : mI a3 = a3_j) {v_limit : Int32} {v_limit_j : Int} (t_v_limit : mI v_limit = v_limit_j) {v_fits : (Nat → Int32)} {v_fits_j : (Nat → Int)} (t_v_fits : mA v_fits = v_fits_j) : tl (mI) (iM_canPair a1_j a2_j a3_j v_limit_j v_fits_j) (pM_canPair a1 a2 a3 v_limit v_fits) := by
  subst t_a1
  subst t_a2
  subst t_a3
  subst t_v_limit
  subst t_v_fits
  unfold iM_canPair pM_canPair
  refine tl_g (fun h1 => ?_)
  refine tl_g (fun h2 => ?_)
  refine tl_gd (jg_ib (ja_add (ja_mul jlitI_10 (Eq.refl (mI a1)) h1) (Eq.refl (mI a2)) h2)) (fun _ => ?_)
  refine tl_ite (jc_lt (Eq.refl (mI v_limit)) (jrd (Eq.refl (mA v_fits)) (jx (ja_add (ja_mul jlitI_10 (Eq.refl (mI a1)) h1) (Eq.refl (mI a2)) h2)))) ?_ ?_
  · exact (tl_some jlitI_0)
  · refine tl_ite (jc_eq (ja_and (ja_shr (Eq.refl (mI a3)) (Eq.refl (mI a2))) jlitI_1) jlitI_0) ?_ ?_
    · exact (tl_some jlitI_1)
    · exact (tl_some jlitI_0)
theorem t_pM_paired {a1 : Int32} {a1_j : Int} (t_a1 : mI a1 = a1_j) {a2 : Int32} {a2_j : Int} (t_a2 : mI a2 = a2_j) {a3 : Int32} {a3_j : Int} (t_a3 : mI a3 = a3_j) {v_best : (Nat → Int32)} {v_best_j : (Nat → Int)} (t_v_best : mA v_best = v_best_j) {v_fits : (Nat → Int32)} {v_fits_j : (Nat → Int)} (t_v_fits : mA v_fits = v_fits_j) : tl (mI) (iM_paired a1_j a2_j a3_j v_best_j v_fits_j) (pM_paired a1 a2 a3 v_best v_fits) := by
  subst t_a1
  subst t_a2
  subst t_a3
  subst t_v_best
  subst t_v_fits
  unfold iM_paired pM_paired
  refine tl_g (fun h1 => ?_)
  refine tl_g (fun h2 => ?_)
  refine tl_g (fun h3 => ?_)
  refine tl_gd (jg_ib (ja_add (ja_mul jlitI_1024 (ja_add (Eq.refl (mI a1)) jlitI_1 h1) h2) (ja_or (Eq.refl (mI a3)) (ja_shl jlitI_1 (Eq.refl (mI a2)))) h3)) (fun _ => ?_)
  refine tl_g (fun h4 => ?_)
  refine tl_g (fun h5 => ?_)
  refine tl_gd (jg_ib (ja_add (ja_mul jlitI_10 (Eq.refl (mI a1)) h4) (Eq.refl (mI a2)) h5)) (fun _ => ?_)
  refine tl_g (fun h6 => ?_)
  refine tl_g (fun h7 => ?_)
  exact (tl_some (ja_sub (ja_add (jrd (Eq.refl (mA v_best)) (jx (ja_add (ja_mul jlitI_1024 (ja_add (Eq.refl (mI a1)) jlitI_1 h1) h2) (ja_or (Eq.refl (mI a3)) (ja_shl jlitI_1 (Eq.refl (mI a2)))) h3))) jlitI_100000 h6) (jrd (Eq.refl (mA v_fits)) (jx (ja_add (ja_mul jlitI_10 (Eq.refl (mI a1)) h4) (Eq.refl (mI a2)) h5))) h7))
theorem t_pM_matches_b59 {N N_j : Nat} (t_N : N = N_j) {v_grain : Int32} {v_grain_j : Int} (t_v_grain : mI v_grain = v_grain_j) {v_limit : Int32} {v_limit_j : Int} (t_v_limit : mI v_limit = v_limit_j) {v_lost : Int32} {v_lost_j : Int} (t_v_lost : mI v_lost = v_lost_j) {v_cutAt : (Nat → Int32)} {v_cutAt_j : (Nat → Int)} (t_v_cutAt : mA v_cutAt = v_cutAt_j) {v_cutWorth : (Nat → Int32)} {v_cutWorth_j : (Nat → Int)} (t_v_cutWorth : mA v_cutWorth = v_cutWorth_j) {v_cuts : (Nat → Int32)} {v_cuts_j : (Nat → Int)} (t_v_cuts : mA v_cuts = v_cuts_j) {self : Int32 → (Nat → Int32) → (Nat → Int32) → Option R_pM_matches} {self_j : Int → (Nat → Int) → (Nat → Int) → Option R_iM_matches} (t_self : ∀ (q0_ : Int32) (q1_ : (Nat → Int32)) (q2_ : (Nat → Int32)), tl (mP mA (mP mA (mP mA mA))) (self_j (mI q0_) (mA q1_) (mA q2_)) (self q0_ q1_ q2_)) {k66 : (Nat → Int32) → (Nat → Int32) → Option R_pM_matches} {k66_j : (Nat → Int) → (Nat → Int) → Option R_iM_matches} (t_k66 : ∀ (q0_ : (Nat → Int32)) (q1_ : (Nat → Int32)), tl (mP mA (mP mA (mP mA mA))) (k66_j (mA q0_) (mA q1_)) (k66 q0_ q1_)) {x1 : Int32} {x1_j : Int} (t_x1 : mI x1 = x1_j) {x2 : Int32} {x2_j : Int} (t_x2 : mI x2 = x2_j) {s1 : Int32} {s1_j : Int} (t_s1 : mI s1 = s1_j) {s2 : Int32} {s2_j : Int} (t_s2 : mI s2 = s2_j) {v_best : (Nat → Int32)} {v_best_j : (Nat → Int)} (t_v_best : mA v_best = v_best_j) {v_cost : (Nat → Int32)} {v_cost_j : (Nat → Int)} (t_v_cost : mA v_cost = v_cost_j) {v_fits : (Nat → Int32)} {v_fits_j : (Nat → Int)} (t_v_fits : mA v_fits = v_fits_j) {v_mates : (Nat → Int32)} {v_mates_j : (Nat → Int)} (t_v_mates : mA v_mates = v_mates_j) : tl (mP mA (mP mA (mP mA mA))) (iM_matches_b59 N_j v_grain_j v_limit_j v_lost_j v_cutAt_j v_cutWorth_j v_cuts_j self_j k66_j x1_j x2_j s1_j s2_j v_best_j v_cost_j v_fits_j v_mates_j) (pM_matches_b59 N v_grain v_limit v_lost v_cutAt v_cutWorth v_cuts self k66 x1 x2 s1 s2 v_best v_cost v_fits v_mates) := by
  subst t_N
  subst t_v_grain
  subst t_v_limit
  subst t_v_lost
  subst t_v_cutAt
  subst t_v_cutWorth
  subst t_v_cuts
  subst t_x1
  subst t_x2
  subst t_s1
  subst t_s2
  subst t_v_best
  subst t_v_cost
  subst t_v_fits
  subst t_v_mates
  unfold iM_matches_b59 pM_matches_b59
  refine tl_gd (jg_ib (Eq.refl (mI s1))) (fun _ => ?_)
  refine tl_g (fun h1 => ?_)
  exact (tl_e3 (ja_add (Eq.refl (mI x2)) jlitI_1 h1) (Eq.refl (mA v_cost)) (jupA (Eq.refl (mA v_fits)) (jx (Eq.refl (mI s1))) (Eq.refl (mI s2))) (t_self _ _ _))
theorem t_pM_matches_b57 {N N_j : Nat} (t_N : N = N_j) {v_grain : Int32} {v_grain_j : Int} (t_v_grain : mI v_grain = v_grain_j) {v_limit : Int32} {v_limit_j : Int} (t_v_limit : mI v_limit = v_limit_j) {v_lost : Int32} {v_lost_j : Int} (t_v_lost : mI v_lost = v_lost_j) {v_cutAt : (Nat → Int32)} {v_cutAt_j : (Nat → Int)} (t_v_cutAt : mA v_cutAt = v_cutAt_j) {v_cutWorth : (Nat → Int32)} {v_cutWorth_j : (Nat → Int)} (t_v_cutWorth : mA v_cutWorth = v_cutWorth_j) {v_cuts : (Nat → Int32)} {v_cuts_j : (Nat → Int)} (t_v_cuts : mA v_cuts = v_cuts_j) {self : Int32 → (Nat → Int32) → (Nat → Int32) → Option R_pM_matches} {self_j : Int → (Nat → Int) → (Nat → Int) → Option R_iM_matches} (t_self : ∀ (q0_ : Int32) (q1_ : (Nat → Int32)) (q2_ : (Nat → Int32)), tl (mP mA (mP mA (mP mA mA))) (self_j (mI q0_) (mA q1_) (mA q2_)) (self q0_ q1_ q2_)) {k66 : (Nat → Int32) → (Nat → Int32) → Option R_pM_matches} {k66_j : (Nat → Int) → (Nat → Int) → Option R_iM_matches} (t_k66 : ∀ (q0_ : (Nat → Int32)) (q1_ : (Nat → Int32)), tl (mP mA (mP mA (mP mA mA))) (k66_j (mA q0_) (mA q1_)) (k66 q0_ q1_)) {x1 : Int32} {x1_j : Int} (t_x1 : mI x1 = x1_j) {x2 : Int32} {x2_j : Int} (t_x2 : mI x2 = x2_j) {s1 : Int32} {s1_j : Int} (t_s1 : mI s1 = s1_j) {v_best : (Nat → Int32)} {v_best_j : (Nat → Int)} (t_v_best : mA v_best = v_best_j) {v_cost : (Nat → Int32)} {v_cost_j : (Nat → Int)} (t_v_cost : mA v_cost = v_cost_j) {v_fits : (Nat → Int32)} {v_fits_j : (Nat → Int)} (t_v_fits : mA v_fits = v_fits_j) {v_mates : (Nat → Int32)} {v_mates_j : (Nat → Int)} (t_v_mates : mA v_mates = v_mates_j) : tl (mP mA (mP mA (mP mA mA))) (iM_matches_b57 N_j v_grain_j v_limit_j v_lost_j v_cutAt_j v_cutWorth_j v_cuts_j self_j k66_j x1_j x2_j s1_j v_best_j v_cost_j v_fits_j v_mates_j) (pM_matches_b57 N v_grain v_limit v_lost v_cutAt v_cutWorth v_cuts self k66 x1 x2 s1 v_best v_cost v_fits v_mates) := by
  subst t_N
  subst t_v_grain
  subst t_v_limit
  subst t_v_lost
  subst t_v_cutAt
  subst t_v_cutWorth
  subst t_v_cuts
  subst t_x1
  subst t_x2
  subst t_s1
  subst t_v_best
  subst t_v_cost
  subst t_v_fits
  subst t_v_mates
  unfold iM_matches_b57 pM_matches_b57
  exact (t_pM_matches_b59 (Eq.refl N) (Eq.refl (mI v_grain)) (Eq.refl (mI v_limit)) (Eq.refl (mI v_lost)) (Eq.refl (mA v_cutAt)) (Eq.refl (mA v_cutWorth)) (Eq.refl (mA v_cuts)) t_self t_k66 (Eq.refl (mI x1)) (Eq.refl (mI x2)) (Eq.refl (mI s1)) jlitI_100000000 (Eq.refl (mA v_best)) (Eq.refl (mA v_cost)) (Eq.refl (mA v_fits)) (Eq.refl (mA v_mates)))
theorem t_pM_matches_b10_F {N N_j : Nat} (t_N : N = N_j) {v_grain : Int32} {v_grain_j : Int} (t_v_grain : mI v_grain = v_grain_j) {v_limit : Int32} {v_limit_j : Int} (t_v_limit : mI v_limit = v_limit_j) {v_lost : Int32} {v_lost_j : Int} (t_v_lost : mI v_lost = v_lost_j) {v_cutAt : (Nat → Int32)} {v_cutAt_j : (Nat → Int)} (t_v_cutAt : mA v_cutAt = v_cutAt_j) {v_cutWorth : (Nat → Int32)} {v_cutWorth_j : (Nat → Int)} (t_v_cutWorth : mA v_cutWorth = v_cutWorth_j) {v_cuts : (Nat → Int32)} {v_cuts_j : (Nat → Int)} (t_v_cuts : mA v_cuts = v_cuts_j) {x1 : Int32} {x1_j : Int} (t_x1 : mI x1 = x1_j) {v_best : (Nat → Int32)} {v_best_j : (Nat → Int)} (t_v_best : mA v_best = v_best_j) {v_mates : (Nat → Int32)} {v_mates_j : (Nat → Int)} (t_v_mates : mA v_mates = v_mates_j) {k66 : (Nat → Int32) → (Nat → Int32) → Option R_pM_matches} {k66_j : (Nat → Int) → (Nat → Int) → Option R_iM_matches} (t_k66 : ∀ (q0_ : (Nat → Int32)) (q1_ : (Nat → Int32)), tl (mP mA (mP mA (mP mA mA))) (k66_j (mA q0_) (mA q1_)) (k66 q0_ q1_)) {self : Int32 → (Nat → Int32) → (Nat → Int32) → Option R_pM_matches} {self_j : Int → (Nat → Int) → (Nat → Int) → Option R_iM_matches} (t_self : ∀ (q0_ : Int32) (q1_ : (Nat → Int32)) (q2_ : (Nat → Int32)), tl (mP mA (mP mA (mP mA mA))) (self_j (mI q0_) (mA q1_) (mA q2_)) (self q0_ q1_ q2_)) {x2 : Int32} {x2_j : Int} (t_x2 : mI x2 = x2_j) {v_cost : (Nat → Int32)} {v_cost_j : (Nat → Int)} (t_v_cost : mA v_cost = v_cost_j) {v_fits : (Nat → Int32)} {v_fits_j : (Nat → Int)} (t_v_fits : mA v_fits = v_fits_j) : tl (mP mA (mP mA (mP mA mA))) (iM_matches_b10_F N_j v_grain_j v_limit_j v_lost_j v_cutAt_j v_cutWorth_j v_cuts_j x1_j v_best_j v_mates_j k66_j self_j x2_j v_cost_j v_fits_j) (pM_matches_b10_F N v_grain v_limit v_lost v_cutAt v_cutWorth v_cuts x1 v_best v_mates k66 self x2 v_cost v_fits) := by
  subst t_N
  subst t_v_grain
  subst t_v_limit
  subst t_v_lost
  subst t_v_cutAt
  subst t_v_cutWorth
  subst t_v_cuts
  subst t_x1
  subst t_v_best
  subst t_v_mates
  subst t_x2
  subst t_v_cost
  subst t_v_fits
  unfold iM_matches_b10_F pM_matches_b10_F
  refine tl_ite (jc_le jlitI_10 (Eq.refl (mI x2))) ?_ ?_
  · exact (tl_e2 (Eq.refl (mA v_cost)) (Eq.refl (mA v_fits)) (t_k66 _ _))
  · refine tl_bd1 (t_pM_isThere (Eq.refl (mI x1)) (Eq.refl (mA v_cuts))) (fun rc1 => ?_)
    refine tl_ite (jc_eq (Eq.refl (mI rc1)) jlitI_0) ?_ ?_
    · refine tl_g (fun h1 => ?_)
      refine tl_g (fun h2 => ?_)
      exact (t_pM_matches_b57 (Eq.refl N) (Eq.refl (mI v_grain)) (Eq.refl (mI v_limit)) (Eq.refl (mI v_lost)) (Eq.refl (mA v_cutAt)) (Eq.refl (mA v_cutWorth)) (Eq.refl (mA v_cuts)) t_self t_k66 (Eq.refl (mI x1)) (Eq.refl (mI x2)) (ja_add (ja_mul jlitI_10 (Eq.refl (mI x1)) h1) (Eq.refl (mI x2)) h2) (Eq.refl (mA v_best)) (Eq.refl (mA v_cost)) (Eq.refl (mA v_fits)) (Eq.refl (mA v_mates)))
    · refine tl_g (fun h3 => ?_)
      refine tl_bd1 (t_pM_isThere (ja_add jlitI_10 (Eq.refl (mI x2)) h3) (Eq.refl (mA v_cuts))) (fun rc2 => ?_)
      refine tl_ite (jc_eq (Eq.refl (mI rc2)) jlitI_0) ?_ ?_
      · refine tl_g (fun h4 => ?_)
        refine tl_g (fun h5 => ?_)
        exact (t_pM_matches_b57 (Eq.refl N) (Eq.refl (mI v_grain)) (Eq.refl (mI v_limit)) (Eq.refl (mI v_lost)) (Eq.refl (mA v_cutAt)) (Eq.refl (mA v_cutWorth)) (Eq.refl (mA v_cuts)) t_self t_k66 (Eq.refl (mI x1)) (Eq.refl (mI x2)) (ja_add (ja_mul jlitI_10 (Eq.refl (mI x1)) h4) (Eq.refl (mI x2)) h5) (Eq.refl (mA v_best)) (Eq.refl (mA v_cost)) (Eq.refl (mA v_fits)) (Eq.refl (mA v_mates)))
      · refine tl_bd2 (t_pM_fitOf (Eq.refl N) (Eq.refl (mI x1)) (ja_add jlitI_10 (Eq.refl (mI x2)) h3) (Eq.refl (mI v_grain)) (Eq.refl (mI v_lost)) (Eq.refl (mA v_cost)) (Eq.refl (mA v_cutAt)) (Eq.refl (mA v_cutWorth)) (Eq.refl (mA v_cuts))) (fun rc3 v_cost_c3 => ?_)
        refine tl_g (fun h6 => ?_)
        refine tl_g (fun h7 => ?_)
        exact (t_pM_matches_b59 (Eq.refl N) (Eq.refl (mI v_grain)) (Eq.refl (mI v_limit)) (Eq.refl (mI v_lost)) (Eq.refl (mA v_cutAt)) (Eq.refl (mA v_cutWorth)) (Eq.refl (mA v_cuts)) t_self t_k66 (Eq.refl (mI x1)) (Eq.refl (mI x2)) (ja_add (ja_mul jlitI_10 (Eq.refl (mI x1)) h6) (Eq.refl (mI x2)) h7) (Eq.refl (mI rc3)) (Eq.refl (mA v_best)) (Eq.refl (mA v_cost_c3)) (Eq.refl (mA v_fits)) (Eq.refl (mA v_mates)))
theorem t_pM_matches_b10 {N N_j : Nat} (t_N : N = N_j) {v_grain : Int32} {v_grain_j : Int} (t_v_grain : mI v_grain = v_grain_j) {v_limit : Int32} {v_limit_j : Int} (t_v_limit : mI v_limit = v_limit_j) {v_lost : Int32} {v_lost_j : Int} (t_v_lost : mI v_lost = v_lost_j) {v_cutAt : (Nat → Int32)} {v_cutAt_j : (Nat → Int)} (t_v_cutAt : mA v_cutAt = v_cutAt_j) {v_cutWorth : (Nat → Int32)} {v_cutWorth_j : (Nat → Int)} (t_v_cutWorth : mA v_cutWorth = v_cutWorth_j) {v_cuts : (Nat → Int32)} {v_cuts_j : (Nat → Int)} (t_v_cuts : mA v_cuts = v_cuts_j) {x1 : Int32} {x1_j : Int} (t_x1 : mI x1 = x1_j) {v_best : (Nat → Int32)} {v_best_j : (Nat → Int)} (t_v_best : mA v_best = v_best_j) {v_mates : (Nat → Int32)} {v_mates_j : (Nat → Int)} (t_v_mates : mA v_mates = v_mates_j) {k66 : (Nat → Int32) → (Nat → Int32) → Option R_pM_matches} {k66_j : (Nat → Int) → (Nat → Int) → Option R_iM_matches} (t_k66 : ∀ (q0_ : (Nat → Int32)) (q1_ : (Nat → Int32)), tl (mP mA (mP mA (mP mA mA))) (k66_j (mA q0_) (mA q1_)) (k66 q0_ q1_)) {n n_j : Nat} (t_n : n = n_j) {w0_ : Int32} {w0__j : Int} (t_w0_ : mI w0_ = w0__j) {w1_ : (Nat → Int32)} {w1__j : (Nat → Int)} (t_w1_ : mA w1_ = w1__j) {w2_ : (Nat → Int32)} {w2__j : (Nat → Int)} (t_w2_ : mA w2_ = w2__j) : tl (mP mA (mP mA (mP mA mA))) (iM_matches_b10 N_j v_grain_j v_limit_j v_lost_j v_cutAt_j v_cutWorth_j v_cuts_j x1_j v_best_j v_mates_j k66_j n_j w0__j w1__j w2__j) (pM_matches_b10 N v_grain v_limit v_lost v_cutAt v_cutWorth v_cuts x1 v_best v_mates k66 n w0_ w1_ w2_) := by
  subst t_N
  subst t_v_grain
  subst t_v_limit
  subst t_v_lost
  subst t_v_cutAt
  subst t_v_cutWorth
  subst t_v_cuts
  subst t_x1
  subst t_v_best
  subst t_v_mates
  subst t_n
  subst t_w0_
  subst t_w1_
  subst t_w2_
  exact tl_zlp3 (fun s2 s hs w0_ w1_ w2_ => t_pM_matches_b10_F (Eq.refl N) (Eq.refl (mI v_grain)) (Eq.refl (mI v_limit)) (Eq.refl (mI v_lost)) (Eq.refl (mA v_cutAt)) (Eq.refl (mA v_cutWorth)) (Eq.refl (mA v_cuts)) (Eq.refl (mI x1)) (Eq.refl (mA v_best)) (Eq.refl (mA v_mates)) t_k66 hs (Eq.refl (mI w0_)) (Eq.refl (mA w1_)) (Eq.refl (mA w2_))) n w0_ w1_ w2_
theorem t_pM_matches_b66 {N N_j : Nat} (t_N : N = N_j) {v_grain : Int32} {v_grain_j : Int} (t_v_grain : mI v_grain = v_grain_j) {v_limit : Int32} {v_limit_j : Int} (t_v_limit : mI v_limit = v_limit_j) {v_lost : Int32} {v_lost_j : Int} (t_v_lost : mI v_lost = v_lost_j) {v_cutAt : (Nat → Int32)} {v_cutAt_j : (Nat → Int)} (t_v_cutAt : mA v_cutAt = v_cutAt_j) {v_cutWorth : (Nat → Int32)} {v_cutWorth_j : (Nat → Int)} (t_v_cutWorth : mA v_cutWorth = v_cutWorth_j) {v_cuts : (Nat → Int32)} {v_cuts_j : (Nat → Int)} (t_v_cuts : mA v_cuts = v_cuts_j) {self : Int32 → (Nat → Int32) → (Nat → Int32) → Option R_pM_matches} {self_j : Int → (Nat → Int) → (Nat → Int) → Option R_iM_matches} (t_self : ∀ (q0_ : Int32) (q1_ : (Nat → Int32)) (q2_ : (Nat → Int32)), tl (mP mA (mP mA (mP mA mA))) (self_j (mI q0_) (mA q1_) (mA q2_)) (self q0_ q1_ q2_)) {k72 : (Nat → Int32) → (Nat → Int32) → Option R_pM_matches} {k72_j : (Nat → Int) → (Nat → Int) → Option R_iM_matches} (t_k72 : ∀ (q0_ : (Nat → Int32)) (q1_ : (Nat → Int32)), tl (mP mA (mP mA (mP mA mA))) (k72_j (mA q0_) (mA q1_)) (k72 q0_ q1_)) {x1 : Int32} {x1_j : Int} (t_x1 : mI x1 = x1_j) {v_best : (Nat → Int32)} {v_best_j : (Nat → Int)} (t_v_best : mA v_best = v_best_j) {v_cost : (Nat → Int32)} {v_cost_j : (Nat → Int)} (t_v_cost : mA v_cost = v_cost_j) {v_fits : (Nat → Int32)} {v_fits_j : (Nat → Int)} (t_v_fits : mA v_fits = v_fits_j) {v_mates : (Nat → Int32)} {v_mates_j : (Nat → Int)} (t_v_mates : mA v_mates = v_mates_j) : tl (mP mA (mP mA (mP mA mA))) (iM_matches_b66 N_j v_grain_j v_limit_j v_lost_j v_cutAt_j v_cutWorth_j v_cuts_j self_j k72_j x1_j v_best_j v_cost_j v_fits_j v_mates_j) (pM_matches_b66 N v_grain v_limit v_lost v_cutAt v_cutWorth v_cuts self k72 x1 v_best v_cost v_fits v_mates) := by
  subst t_N
  subst t_v_grain
  subst t_v_limit
  subst t_v_lost
  subst t_v_cutAt
  subst t_v_cutWorth
  subst t_v_cuts
  subst t_x1
  subst t_v_best
  subst t_v_cost
  subst t_v_fits
  subst t_v_mates
  unfold iM_matches_b66 pM_matches_b66
  refine tl_g (fun h1 => ?_)
  exact (tl_e3 (ja_add (Eq.refl (mI x1)) jlitI_1 h1) (Eq.refl (mA v_cost)) (Eq.refl (mA v_fits)) (t_self _ _ _))
theorem t_pM_matches_b2_F {N N_j : Nat} (t_N : N = N_j) {v_grain : Int32} {v_grain_j : Int} (t_v_grain : mI v_grain = v_grain_j) {v_limit : Int32} {v_limit_j : Int} (t_v_limit : mI v_limit = v_limit_j) {v_lost : Int32} {v_lost_j : Int} (t_v_lost : mI v_lost = v_lost_j) {v_cutAt : (Nat → Int32)} {v_cutAt_j : (Nat → Int)} (t_v_cutAt : mA v_cutAt = v_cutAt_j) {v_cutWorth : (Nat → Int32)} {v_cutWorth_j : (Nat → Int)} (t_v_cutWorth : mA v_cutWorth = v_cutWorth_j) {v_cuts : (Nat → Int32)} {v_cuts_j : (Nat → Int)} (t_v_cuts : mA v_cuts = v_cuts_j) {v_best : (Nat → Int32)} {v_best_j : (Nat → Int)} (t_v_best : mA v_best = v_best_j) {v_mates : (Nat → Int32)} {v_mates_j : (Nat → Int)} (t_v_mates : mA v_mates = v_mates_j) {k72 : (Nat → Int32) → (Nat → Int32) → Option R_pM_matches} {k72_j : (Nat → Int) → (Nat → Int) → Option R_iM_matches} (t_k72 : ∀ (q0_ : (Nat → Int32)) (q1_ : (Nat → Int32)), tl (mP mA (mP mA (mP mA mA))) (k72_j (mA q0_) (mA q1_)) (k72 q0_ q1_)) {self : Int32 → (Nat → Int32) → (Nat → Int32) → Option R_pM_matches} {self_j : Int → (Nat → Int) → (Nat → Int) → Option R_iM_matches} (t_self : ∀ (q0_ : Int32) (q1_ : (Nat → Int32)) (q2_ : (Nat → Int32)), tl (mP mA (mP mA (mP mA mA))) (self_j (mI q0_) (mA q1_) (mA q2_)) (self q0_ q1_ q2_)) {x1 : Int32} {x1_j : Int} (t_x1 : mI x1 = x1_j) {v_cost : (Nat → Int32)} {v_cost_j : (Nat → Int)} (t_v_cost : mA v_cost = v_cost_j) {v_fits : (Nat → Int32)} {v_fits_j : (Nat → Int)} (t_v_fits : mA v_fits = v_fits_j) : tl (mP mA (mP mA (mP mA mA))) (iM_matches_b2_F N_j v_grain_j v_limit_j v_lost_j v_cutAt_j v_cutWorth_j v_cuts_j v_best_j v_mates_j k72_j self_j x1_j v_cost_j v_fits_j) (pM_matches_b2_F N v_grain v_limit v_lost v_cutAt v_cutWorth v_cuts v_best v_mates k72 self x1 v_cost v_fits) := by
  subst t_N
  subst t_v_grain
  subst t_v_limit
  subst t_v_lost
  subst t_v_cutAt
  subst t_v_cutWorth
  subst t_v_cuts
  subst t_v_best
  subst t_v_mates
  subst t_x1
  subst t_v_cost
  subst t_v_fits
  unfold iM_matches_b2_F pM_matches_b2_F
  refine tl_ite (jc_le jlitI_10 (Eq.refl (mI x1))) ?_ ?_
  · exact (tl_e2 (Eq.refl (mA v_cost)) (Eq.refl (mA v_fits)) (t_k72 _ _))
  · exact (t_pM_matches_b10 (Eq.refl N) (Eq.refl (mI v_grain)) (Eq.refl (mI v_limit)) (Eq.refl (mI v_lost)) (Eq.refl (mA v_cutAt)) (Eq.refl (mA v_cutWorth)) (Eq.refl (mA v_cuts)) (Eq.refl (mI x1)) (Eq.refl (mA v_best)) (Eq.refl (mA v_mates)) (fun v_cost_k1 v_fits_k2 => by exact (t_pM_matches_b66 (Eq.refl N) (Eq.refl (mI v_grain)) (Eq.refl (mI v_limit)) (Eq.refl (mI v_lost)) (Eq.refl (mA v_cutAt)) (Eq.refl (mA v_cutWorth)) (Eq.refl (mA v_cuts)) t_self t_k72 (Eq.refl (mI x1)) (Eq.refl (mA v_best)) (Eq.refl (mA v_cost_k1)) (Eq.refl (mA v_fits_k2)) (Eq.refl (mA v_mates)))) (Eq.refl N) jlitI_0 (Eq.refl (mA v_cost)) (Eq.refl (mA v_fits)))
theorem t_pM_matches_b2 {N N_j : Nat} (t_N : N = N_j) {v_grain : Int32} {v_grain_j : Int} (t_v_grain : mI v_grain = v_grain_j) {v_limit : Int32} {v_limit_j : Int} (t_v_limit : mI v_limit = v_limit_j) {v_lost : Int32} {v_lost_j : Int} (t_v_lost : mI v_lost = v_lost_j) {v_cutAt : (Nat → Int32)} {v_cutAt_j : (Nat → Int)} (t_v_cutAt : mA v_cutAt = v_cutAt_j) {v_cutWorth : (Nat → Int32)} {v_cutWorth_j : (Nat → Int)} (t_v_cutWorth : mA v_cutWorth = v_cutWorth_j) {v_cuts : (Nat → Int32)} {v_cuts_j : (Nat → Int)} (t_v_cuts : mA v_cuts = v_cuts_j) {v_best : (Nat → Int32)} {v_best_j : (Nat → Int)} (t_v_best : mA v_best = v_best_j) {v_mates : (Nat → Int32)} {v_mates_j : (Nat → Int)} (t_v_mates : mA v_mates = v_mates_j) {k72 : (Nat → Int32) → (Nat → Int32) → Option R_pM_matches} {k72_j : (Nat → Int) → (Nat → Int) → Option R_iM_matches} (t_k72 : ∀ (q0_ : (Nat → Int32)) (q1_ : (Nat → Int32)), tl (mP mA (mP mA (mP mA mA))) (k72_j (mA q0_) (mA q1_)) (k72 q0_ q1_)) {n n_j : Nat} (t_n : n = n_j) {w0_ : Int32} {w0__j : Int} (t_w0_ : mI w0_ = w0__j) {w1_ : (Nat → Int32)} {w1__j : (Nat → Int)} (t_w1_ : mA w1_ = w1__j) {w2_ : (Nat → Int32)} {w2__j : (Nat → Int)} (t_w2_ : mA w2_ = w2__j) : tl (mP mA (mP mA (mP mA mA))) (iM_matches_b2 N_j v_grain_j v_limit_j v_lost_j v_cutAt_j v_cutWorth_j v_cuts_j v_best_j v_mates_j k72_j n_j w0__j w1__j w2__j) (pM_matches_b2 N v_grain v_limit v_lost v_cutAt v_cutWorth v_cuts v_best v_mates k72 n w0_ w1_ w2_) := by
  subst t_N
  subst t_v_grain
  subst t_v_limit
  subst t_v_lost
  subst t_v_cutAt
  subst t_v_cutWorth
  subst t_v_cuts
  subst t_v_best
  subst t_v_mates
  subst t_n
  subst t_w0_
  subst t_w1_
  subst t_w2_
  exact tl_zlp3 (fun s2 s hs w0_ w1_ w2_ => t_pM_matches_b2_F (Eq.refl N) (Eq.refl (mI v_grain)) (Eq.refl (mI v_limit)) (Eq.refl (mI v_lost)) (Eq.refl (mA v_cutAt)) (Eq.refl (mA v_cutWorth)) (Eq.refl (mA v_cuts)) (Eq.refl (mA v_best)) (Eq.refl (mA v_mates)) t_k72 hs (Eq.refl (mI w0_)) (Eq.refl (mA w1_)) (Eq.refl (mA w2_))) n w0_ w1_ w2_
theorem t_pM_matches_b74_F {N N_j : Nat} (t_N : N = N_j) {v_grain : Int32} {v_grain_j : Int} (t_v_grain : mI v_grain = v_grain_j) {v_limit : Int32} {v_limit_j : Int} (t_v_limit : mI v_limit = v_limit_j) {v_lost : Int32} {v_lost_j : Int} (t_v_lost : mI v_lost = v_lost_j) {v_cutAt : (Nat → Int32)} {v_cutAt_j : (Nat → Int)} (t_v_cutAt : mA v_cutAt = v_cutAt_j) {v_cutWorth : (Nat → Int32)} {v_cutWorth_j : (Nat → Int)} (t_v_cutWorth : mA v_cutWorth = v_cutWorth_j) {v_cuts : (Nat → Int32)} {v_cuts_j : (Nat → Int)} (t_v_cuts : mA v_cuts = v_cuts_j) {v_cost : (Nat → Int32)} {v_cost_j : (Nat → Int)} (t_v_cost : mA v_cost = v_cost_j) {v_fits : (Nat → Int32)} {v_fits_j : (Nat → Int)} (t_v_fits : mA v_fits = v_fits_j) {v_mates : (Nat → Int32)} {v_mates_j : (Nat → Int)} (t_v_mates : mA v_mates = v_mates_j) {k98 : (Nat → Int32) → Option R_pM_matches} {k98_j : (Nat → Int) → Option R_iM_matches} (t_k98 : ∀ (q0_ : (Nat → Int32)), tl (mP mA (mP mA (mP mA mA))) (k98_j (mA q0_)) (k98 q0_)) {self : Int32 → (Nat → Int32) → Option R_pM_matches} {self_j : Int → (Nat → Int) → Option R_iM_matches} (t_self : ∀ (q0_ : Int32) (q1_ : (Nat → Int32)), tl (mP mA (mP mA (mP mA mA))) (self_j (mI q0_) (mA q1_)) (self q0_ q1_)) {x1 : Int32} {x1_j : Int} (t_x1 : mI x1 = x1_j) {v_best : (Nat → Int32)} {v_best_j : (Nat → Int)} (t_v_best : mA v_best = v_best_j) : tl (mP mA (mP mA (mP mA mA))) (iM_matches_b74_F N_j v_grain_j v_limit_j v_lost_j v_cutAt_j v_cutWorth_j v_cuts_j v_cost_j v_fits_j v_mates_j k98_j self_j x1_j v_best_j) (pM_matches_b74_F N v_grain v_limit v_lost v_cutAt v_cutWorth v_cuts v_cost v_fits v_mates k98 self x1 v_best) := by
  subst t_N
  subst t_v_grain
  subst t_v_limit
  subst t_v_lost
  subst t_v_cutAt
  subst t_v_cutWorth
  subst t_v_cuts
  subst t_v_cost
  subst t_v_fits
  subst t_v_mates
  subst t_x1
  subst t_v_best
  unfold iM_matches_b74_F pM_matches_b74_F
  refine tl_ite (jc_le jlitI_1024 (Eq.refl (mI x1))) ?_ ?_
  · exact (tl_e1 (Eq.refl (mA v_best)) (t_k98 _))
  · refine tl_g (fun h1 => ?_)
    refine tl_gd (jg_ib (ja_add jlitI_10240 (Eq.refl (mI x1)) h1)) (fun _ => ?_)
    refine tl_g (fun h2 => ?_)
    exact (tl_e2 (ja_add (Eq.refl (mI x1)) jlitI_1 h2) (jupA (Eq.refl (mA v_best)) (jx (ja_add jlitI_10240 (Eq.refl (mI x1)) h1)) jlitI_0) (t_self _ _))
theorem t_pM_matches_b74 {N N_j : Nat} (t_N : N = N_j) {v_grain : Int32} {v_grain_j : Int} (t_v_grain : mI v_grain = v_grain_j) {v_limit : Int32} {v_limit_j : Int} (t_v_limit : mI v_limit = v_limit_j) {v_lost : Int32} {v_lost_j : Int} (t_v_lost : mI v_lost = v_lost_j) {v_cutAt : (Nat → Int32)} {v_cutAt_j : (Nat → Int)} (t_v_cutAt : mA v_cutAt = v_cutAt_j) {v_cutWorth : (Nat → Int32)} {v_cutWorth_j : (Nat → Int)} (t_v_cutWorth : mA v_cutWorth = v_cutWorth_j) {v_cuts : (Nat → Int32)} {v_cuts_j : (Nat → Int)} (t_v_cuts : mA v_cuts = v_cuts_j) {v_cost : (Nat → Int32)} {v_cost_j : (Nat → Int)} (t_v_cost : mA v_cost = v_cost_j) {v_fits : (Nat → Int32)} {v_fits_j : (Nat → Int)} (t_v_fits : mA v_fits = v_fits_j) {v_mates : (Nat → Int32)} {v_mates_j : (Nat → Int)} (t_v_mates : mA v_mates = v_mates_j) {k98 : (Nat → Int32) → Option R_pM_matches} {k98_j : (Nat → Int) → Option R_iM_matches} (t_k98 : ∀ (q0_ : (Nat → Int32)), tl (mP mA (mP mA (mP mA mA))) (k98_j (mA q0_)) (k98 q0_)) {n n_j : Nat} (t_n : n = n_j) {w0_ : Int32} {w0__j : Int} (t_w0_ : mI w0_ = w0__j) {w1_ : (Nat → Int32)} {w1__j : (Nat → Int)} (t_w1_ : mA w1_ = w1__j) : tl (mP mA (mP mA (mP mA mA))) (iM_matches_b74 N_j v_grain_j v_limit_j v_lost_j v_cutAt_j v_cutWorth_j v_cuts_j v_cost_j v_fits_j v_mates_j k98_j n_j w0__j w1__j) (pM_matches_b74 N v_grain v_limit v_lost v_cutAt v_cutWorth v_cuts v_cost v_fits v_mates k98 n w0_ w1_) := by
  subst t_N
  subst t_v_grain
  subst t_v_limit
  subst t_v_lost
  subst t_v_cutAt
  subst t_v_cutWorth
  subst t_v_cuts
  subst t_v_cost
  subst t_v_fits
  subst t_v_mates
  subst t_n
  subst t_w0_
  subst t_w1_
  exact tl_zlp2 (fun s2 s hs w0_ w1_ => t_pM_matches_b74_F (Eq.refl N) (Eq.refl (mI v_grain)) (Eq.refl (mI v_limit)) (Eq.refl (mI v_lost)) (Eq.refl (mA v_cutAt)) (Eq.refl (mA v_cutWorth)) (Eq.refl (mA v_cuts)) (Eq.refl (mA v_cost)) (Eq.refl (mA v_fits)) (Eq.refl (mA v_mates)) t_k98 hs (Eq.refl (mI w0_)) (Eq.refl (mA w1_))) n w0_ w1_
theorem t_pM_matches_b132_F {N N_j : Nat} (t_N : N = N_j) {v_grain : Int32} {v_grain_j : Int} (t_v_grain : mI v_grain = v_grain_j) {v_limit : Int32} {v_limit_j : Int} (t_v_limit : mI v_limit = v_limit_j) {v_lost : Int32} {v_lost_j : Int} (t_v_lost : mI v_lost = v_lost_j) {v_cutAt : (Nat → Int32)} {v_cutAt_j : (Nat → Int)} (t_v_cutAt : mA v_cutAt = v_cutAt_j) {v_cutWorth : (Nat → Int32)} {v_cutWorth_j : (Nat → Int)} (t_v_cutWorth : mA v_cutWorth = v_cutWorth_j) {v_cuts : (Nat → Int32)} {v_cuts_j : (Nat → Int)} (t_v_cuts : mA v_cuts = v_cuts_j) {x1 : Int32} {x1_j : Int} (t_x1 : mI x1 = x1_j) {x2 : Int32} {x2_j : Int} (t_x2 : mI x2 = x2_j) {v_best : (Nat → Int32)} {v_best_j : (Nat → Int)} (t_v_best : mA v_best = v_best_j) {v_cost : (Nat → Int32)} {v_cost_j : (Nat → Int)} (t_v_cost : mA v_cost = v_cost_j) {v_fits : (Nat → Int32)} {v_fits_j : (Nat → Int)} (t_v_fits : mA v_fits = v_fits_j) {v_mates : (Nat → Int32)} {v_mates_j : (Nat → Int)} (t_v_mates : mA v_mates = v_mates_j) {k177 : Int32 → Option R_pM_matches} {k177_j : Int → Option R_iM_matches} (t_k177 : ∀ (q0_ : Int32), tl (mP mA (mP mA (mP mA mA))) (k177_j (mI q0_)) (k177 q0_)) {self : Int32 → Int32 → Option R_pM_matches} {self_j : Int → Int → Option R_iM_matches} (t_self : ∀ (q0_ : Int32) (q1_ : Int32), tl (mP mA (mP mA (mP mA mA))) (self_j (mI q0_) (mI q1_)) (self q0_ q1_)) {x3 : Int32} {x3_j : Int} (t_x3 : mI x3 = x3_j) {x4 : Int32} {x4_j : Int} (t_x4 : mI x4 = x4_j) : tl (mP mA (mP mA (mP mA mA))) (iM_matches_b132_F N_j v_grain_j v_limit_j v_lost_j v_cutAt_j v_cutWorth_j v_cuts_j x1_j x2_j v_best_j v_cost_j v_fits_j v_mates_j k177_j self_j x3_j x4_j) (pM_matches_b132_F N v_grain v_limit v_lost v_cutAt v_cutWorth v_cuts x1 x2 v_best v_cost v_fits v_mates k177 self x3 x4) := by
  subst t_N
  subst t_v_grain
  subst t_v_limit
  subst t_v_lost
  subst t_v_cutAt
  subst t_v_cutWorth
  subst t_v_cuts
  subst t_x1
  subst t_x2
  subst t_v_best
  subst t_v_cost
  subst t_v_fits
  subst t_v_mates
  subst t_x3
  subst t_x4
  unfold iM_matches_b132_F pM_matches_b132_F
  refine tl_ite (jc_le jlitI_10 (Eq.refl (mI x4))) ?_ ?_
  · exact (tl_e1 (Eq.refl (mI x3)) (t_k177 _))
  · refine tl_bd1 (t_pM_canPair (Eq.refl (mI x1)) (Eq.refl (mI x4)) (Eq.refl (mI x2)) (Eq.refl (mI v_limit)) (Eq.refl (mA v_fits))) (fun rc8 => ?_)
    refine tl_ite (jc_eq (Eq.refl (mI rc8)) jlitI_0) ?_ ?_
    · refine tl_g (fun h1 => ?_)
      exact (tl_e2 (Eq.refl (mI x3)) (ja_add (Eq.refl (mI x4)) jlitI_1 h1) (t_self _ _))
    · refine tl_bd1 (t_pM_paired (Eq.refl (mI x1)) (Eq.refl (mI x4)) (Eq.refl (mI x2)) (Eq.refl (mA v_best)) (Eq.refl (mA v_fits))) (fun rc9 => ?_)
      refine tl_ite (jc_le (Eq.refl (mI rc9)) (Eq.refl (mI x3))) ?_ ?_
      · refine tl_g (fun h2 => ?_)
        exact (tl_e2 (Eq.refl (mI x3)) (ja_add (Eq.refl (mI x4)) jlitI_1 h2) (t_self _ _))
      · refine tl_bd1 (t_pM_paired (Eq.refl (mI x1)) (Eq.refl (mI x4)) (Eq.refl (mI x2)) (Eq.refl (mA v_best)) (Eq.refl (mA v_fits))) (fun rc10 => ?_)
        refine tl_g (fun h3 => ?_)
        exact (tl_e2 (Eq.refl (mI rc10)) (ja_add (Eq.refl (mI x4)) jlitI_1 h3) (t_self _ _))
theorem t_pM_matches_b132 {N N_j : Nat} (t_N : N = N_j) {v_grain : Int32} {v_grain_j : Int} (t_v_grain : mI v_grain = v_grain_j) {v_limit : Int32} {v_limit_j : Int} (t_v_limit : mI v_limit = v_limit_j) {v_lost : Int32} {v_lost_j : Int} (t_v_lost : mI v_lost = v_lost_j) {v_cutAt : (Nat → Int32)} {v_cutAt_j : (Nat → Int)} (t_v_cutAt : mA v_cutAt = v_cutAt_j) {v_cutWorth : (Nat → Int32)} {v_cutWorth_j : (Nat → Int)} (t_v_cutWorth : mA v_cutWorth = v_cutWorth_j) {v_cuts : (Nat → Int32)} {v_cuts_j : (Nat → Int)} (t_v_cuts : mA v_cuts = v_cuts_j) {x1 : Int32} {x1_j : Int} (t_x1 : mI x1 = x1_j) {x2 : Int32} {x2_j : Int} (t_x2 : mI x2 = x2_j) {v_best : (Nat → Int32)} {v_best_j : (Nat → Int)} (t_v_best : mA v_best = v_best_j) {v_cost : (Nat → Int32)} {v_cost_j : (Nat → Int)} (t_v_cost : mA v_cost = v_cost_j) {v_fits : (Nat → Int32)} {v_fits_j : (Nat → Int)} (t_v_fits : mA v_fits = v_fits_j) {v_mates : (Nat → Int32)} {v_mates_j : (Nat → Int)} (t_v_mates : mA v_mates = v_mates_j) {k177 : Int32 → Option R_pM_matches} {k177_j : Int → Option R_iM_matches} (t_k177 : ∀ (q0_ : Int32), tl (mP mA (mP mA (mP mA mA))) (k177_j (mI q0_)) (k177 q0_)) {n n_j : Nat} (t_n : n = n_j) {w0_ : Int32} {w0__j : Int} (t_w0_ : mI w0_ = w0__j) {w1_ : Int32} {w1__j : Int} (t_w1_ : mI w1_ = w1__j) : tl (mP mA (mP mA (mP mA mA))) (iM_matches_b132 N_j v_grain_j v_limit_j v_lost_j v_cutAt_j v_cutWorth_j v_cuts_j x1_j x2_j v_best_j v_cost_j v_fits_j v_mates_j k177_j n_j w0__j w1__j) (pM_matches_b132 N v_grain v_limit v_lost v_cutAt v_cutWorth v_cuts x1 x2 v_best v_cost v_fits v_mates k177 n w0_ w1_) := by
  subst t_N
  subst t_v_grain
  subst t_v_limit
  subst t_v_lost
  subst t_v_cutAt
  subst t_v_cutWorth
  subst t_v_cuts
  subst t_x1
  subst t_x2
  subst t_v_best
  subst t_v_cost
  subst t_v_fits
  subst t_v_mates
  subst t_n
  subst t_w0_
  subst t_w1_
  exact tl_zlp2 (fun s2 s hs w0_ w1_ => t_pM_matches_b132_F (Eq.refl N) (Eq.refl (mI v_grain)) (Eq.refl (mI v_limit)) (Eq.refl (mI v_lost)) (Eq.refl (mA v_cutAt)) (Eq.refl (mA v_cutWorth)) (Eq.refl (mA v_cuts)) (Eq.refl (mI x1)) (Eq.refl (mI x2)) (Eq.refl (mA v_best)) (Eq.refl (mA v_cost)) (Eq.refl (mA v_fits)) (Eq.refl (mA v_mates)) t_k177 hs (Eq.refl (mI w0_)) (Eq.refl (mI w1_))) n w0_ w1_
theorem t_pM_matches_b177 {N N_j : Nat} (t_N : N = N_j) {v_grain : Int32} {v_grain_j : Int} (t_v_grain : mI v_grain = v_grain_j) {v_limit : Int32} {v_limit_j : Int} (t_v_limit : mI v_limit = v_limit_j) {v_lost : Int32} {v_lost_j : Int} (t_v_lost : mI v_lost = v_lost_j) {v_cutAt : (Nat → Int32)} {v_cutAt_j : (Nat → Int)} (t_v_cutAt : mA v_cutAt = v_cutAt_j) {v_cutWorth : (Nat → Int32)} {v_cutWorth_j : (Nat → Int)} (t_v_cutWorth : mA v_cutWorth = v_cutWorth_j) {v_cuts : (Nat → Int32)} {v_cuts_j : (Nat → Int)} (t_v_cuts : mA v_cuts = v_cuts_j) {self : Int32 → (Nat → Int32) → Option R_pM_matches} {self_j : Int → (Nat → Int) → Option R_iM_matches} (t_self : ∀ (q0_ : Int32) (q1_ : (Nat → Int32)), tl (mP mA (mP mA (mP mA mA))) (self_j (mI q0_) (mA q1_)) (self q0_ q1_)) {k196 : (Nat → Int32) → Option R_pM_matches} {k196_j : (Nat → Int) → Option R_iM_matches} (t_k196 : ∀ (q0_ : (Nat → Int32)), tl (mP mA (mP mA (mP mA mA))) (k196_j (mA q0_)) (k196 q0_)) {x1 : Int32} {x1_j : Int} (t_x1 : mI x1 = x1_j) {x2 : Int32} {x2_j : Int} (t_x2 : mI x2 = x2_j) {x3 : Int32} {x3_j : Int} (t_x3 : mI x3 = x3_j) {v_best : (Nat → Int32)} {v_best_j : (Nat → Int)} (t_v_best : mA v_best = v_best_j) {v_cost : (Nat → Int32)} {v_cost_j : (Nat → Int)} (t_v_cost : mA v_cost = v_cost_j) {v_fits : (Nat → Int32)} {v_fits_j : (Nat → Int)} (t_v_fits : mA v_fits = v_fits_j) {v_mates : (Nat → Int32)} {v_mates_j : (Nat → Int)} (t_v_mates : mA v_mates = v_mates_j) : tl (mP mA (mP mA (mP mA mA))) (iM_matches_b177 N_j v_grain_j v_limit_j v_lost_j v_cutAt_j v_cutWorth_j v_cuts_j self_j k196_j x1_j x2_j x3_j v_best_j v_cost_j v_fits_j v_mates_j) (pM_matches_b177 N v_grain v_limit v_lost v_cutAt v_cutWorth v_cuts self k196 x1 x2 x3 v_best v_cost v_fits v_mates) := by
  subst t_N
  subst t_v_grain
  subst t_v_limit
  subst t_v_lost
  subst t_v_cutAt
  subst t_v_cutWorth
  subst t_v_cuts
  subst t_x1
  subst t_x2
  subst t_x3
  subst t_v_best
  subst t_v_cost
  subst t_v_fits
  subst t_v_mates
  unfold iM_matches_b177 pM_matches_b177
  refine tl_g (fun h1 => ?_)
  refine tl_g (fun h2 => ?_)
  refine tl_gd (jg_ib (ja_add (ja_mul jlitI_1024 (Eq.refl (mI x1)) h1) (Eq.refl (mI x2)) h2)) (fun _ => ?_)
  refine tl_g (fun h3 => ?_)
  exact (tl_e2 (ja_add (Eq.refl (mI x2)) jlitI_1 h3) (jupA (Eq.refl (mA v_best)) (jx (ja_add (ja_mul jlitI_1024 (Eq.refl (mI x1)) h1) (Eq.refl (mI x2)) h2)) (Eq.refl (mI x3))) (t_self _ _))
theorem t_pM_matches_b107_F {N N_j : Nat} (t_N : N = N_j) {v_grain : Int32} {v_grain_j : Int} (t_v_grain : mI v_grain = v_grain_j) {v_limit : Int32} {v_limit_j : Int} (t_v_limit : mI v_limit = v_limit_j) {v_lost : Int32} {v_lost_j : Int} (t_v_lost : mI v_lost = v_lost_j) {v_cutAt : (Nat → Int32)} {v_cutAt_j : (Nat → Int)} (t_v_cutAt : mA v_cutAt = v_cutAt_j) {v_cutWorth : (Nat → Int32)} {v_cutWorth_j : (Nat → Int)} (t_v_cutWorth : mA v_cutWorth = v_cutWorth_j) {v_cuts : (Nat → Int32)} {v_cuts_j : (Nat → Int)} (t_v_cuts : mA v_cuts = v_cuts_j) {x1 : Int32} {x1_j : Int} (t_x1 : mI x1 = x1_j) {v_cost : (Nat → Int32)} {v_cost_j : (Nat → Int)} (t_v_cost : mA v_cost = v_cost_j) {v_fits : (Nat → Int32)} {v_fits_j : (Nat → Int)} (t_v_fits : mA v_fits = v_fits_j) {v_mates : (Nat → Int32)} {v_mates_j : (Nat → Int)} (t_v_mates : mA v_mates = v_mates_j) {k196 : (Nat → Int32) → Option R_pM_matches} {k196_j : (Nat → Int) → Option R_iM_matches} (t_k196 : ∀ (q0_ : (Nat → Int32)), tl (mP mA (mP mA (mP mA mA))) (k196_j (mA q0_)) (k196 q0_)) {self : Int32 → (Nat → Int32) → Option R_pM_matches} {self_j : Int → (Nat → Int) → Option R_iM_matches} (t_self : ∀ (q0_ : Int32) (q1_ : (Nat → Int32)), tl (mP mA (mP mA (mP mA mA))) (self_j (mI q0_) (mA q1_)) (self q0_ q1_)) {x2 : Int32} {x2_j : Int} (t_x2 : mI x2 = x2_j) {v_best : (Nat → Int32)} {v_best_j : (Nat → Int)} (t_v_best : mA v_best = v_best_j) : tl (mP mA (mP mA (mP mA mA))) (iM_matches_b107_F N_j v_grain_j v_limit_j v_lost_j v_cutAt_j v_cutWorth_j v_cuts_j x1_j v_cost_j v_fits_j v_mates_j k196_j self_j x2_j v_best_j) (pM_matches_b107_F N v_grain v_limit v_lost v_cutAt v_cutWorth v_cuts x1 v_cost v_fits v_mates k196 self x2 v_best) := by
  subst t_N
  subst t_v_grain
  subst t_v_limit
  subst t_v_lost
  subst t_v_cutAt
  subst t_v_cutWorth
  subst t_v_cuts
  subst t_x1
  subst t_v_cost
  subst t_v_fits
  subst t_v_mates
  subst t_x2
  subst t_v_best
  unfold iM_matches_b107_F pM_matches_b107_F
  refine tl_ite (jc_le jlitI_1024 (Eq.refl (mI x2))) ?_ ?_
  · exact (tl_e1 (Eq.refl (mA v_best)) (t_k196 _))
  · refine tl_g (fun h1 => ?_)
    refine tl_g (fun h2 => ?_)
    refine tl_g (fun h3 => ?_)
    refine tl_gd (jg_ib (ja_add (ja_mul jlitI_1024 (ja_add (Eq.refl (mI x1)) jlitI_1 h1) h2) (Eq.refl (mI x2)) h3)) (fun _ => ?_)
    exact (t_pM_matches_b132 (Eq.refl N) (Eq.refl (mI v_grain)) (Eq.refl (mI v_limit)) (Eq.refl (mI v_lost)) (Eq.refl (mA v_cutAt)) (Eq.refl (mA v_cutWorth)) (Eq.refl (mA v_cuts)) (Eq.refl (mI x1)) (Eq.refl (mI x2)) (Eq.refl (mA v_best)) (Eq.refl (mA v_cost)) (Eq.refl (mA v_fits)) (Eq.refl (mA v_mates)) (fun x3_k6 => by exact (t_pM_matches_b177 (Eq.refl N) (Eq.refl (mI v_grain)) (Eq.refl (mI v_limit)) (Eq.refl (mI v_lost)) (Eq.refl (mA v_cutAt)) (Eq.refl (mA v_cutWorth)) (Eq.refl (mA v_cuts)) t_self t_k196 (Eq.refl (mI x1)) (Eq.refl (mI x2)) (Eq.refl (mI x3_k6)) (Eq.refl (mA v_best)) (Eq.refl (mA v_cost)) (Eq.refl (mA v_fits)) (Eq.refl (mA v_mates)))) (Eq.refl N) (jrd (Eq.refl (mA v_best)) (jx (ja_add (ja_mul jlitI_1024 (ja_add (Eq.refl (mI x1)) jlitI_1 h1) h2) (Eq.refl (mI x2)) h3))) jlitI_0)
theorem t_pM_matches_b107 {N N_j : Nat} (t_N : N = N_j) {v_grain : Int32} {v_grain_j : Int} (t_v_grain : mI v_grain = v_grain_j) {v_limit : Int32} {v_limit_j : Int} (t_v_limit : mI v_limit = v_limit_j) {v_lost : Int32} {v_lost_j : Int} (t_v_lost : mI v_lost = v_lost_j) {v_cutAt : (Nat → Int32)} {v_cutAt_j : (Nat → Int)} (t_v_cutAt : mA v_cutAt = v_cutAt_j) {v_cutWorth : (Nat → Int32)} {v_cutWorth_j : (Nat → Int)} (t_v_cutWorth : mA v_cutWorth = v_cutWorth_j) {v_cuts : (Nat → Int32)} {v_cuts_j : (Nat → Int)} (t_v_cuts : mA v_cuts = v_cuts_j) {x1 : Int32} {x1_j : Int} (t_x1 : mI x1 = x1_j) {v_cost : (Nat → Int32)} {v_cost_j : (Nat → Int)} (t_v_cost : mA v_cost = v_cost_j) {v_fits : (Nat → Int32)} {v_fits_j : (Nat → Int)} (t_v_fits : mA v_fits = v_fits_j) {v_mates : (Nat → Int32)} {v_mates_j : (Nat → Int)} (t_v_mates : mA v_mates = v_mates_j) {k196 : (Nat → Int32) → Option R_pM_matches} {k196_j : (Nat → Int) → Option R_iM_matches} (t_k196 : ∀ (q0_ : (Nat → Int32)), tl (mP mA (mP mA (mP mA mA))) (k196_j (mA q0_)) (k196 q0_)) {n n_j : Nat} (t_n : n = n_j) {w0_ : Int32} {w0__j : Int} (t_w0_ : mI w0_ = w0__j) {w1_ : (Nat → Int32)} {w1__j : (Nat → Int)} (t_w1_ : mA w1_ = w1__j) : tl (mP mA (mP mA (mP mA mA))) (iM_matches_b107 N_j v_grain_j v_limit_j v_lost_j v_cutAt_j v_cutWorth_j v_cuts_j x1_j v_cost_j v_fits_j v_mates_j k196_j n_j w0__j w1__j) (pM_matches_b107 N v_grain v_limit v_lost v_cutAt v_cutWorth v_cuts x1 v_cost v_fits v_mates k196 n w0_ w1_) := by
  subst t_N
  subst t_v_grain
  subst t_v_limit
  subst t_v_lost
  subst t_v_cutAt
  subst t_v_cutWorth
  subst t_v_cuts
  subst t_x1
  subst t_v_cost
  subst t_v_fits
  subst t_v_mates
  subst t_n
  subst t_w0_
  subst t_w1_
  exact tl_zlp2 (fun s2 s hs w0_ w1_ => t_pM_matches_b107_F (Eq.refl N) (Eq.refl (mI v_grain)) (Eq.refl (mI v_limit)) (Eq.refl (mI v_lost)) (Eq.refl (mA v_cutAt)) (Eq.refl (mA v_cutWorth)) (Eq.refl (mA v_cuts)) (Eq.refl (mI x1)) (Eq.refl (mA v_cost)) (Eq.refl (mA v_fits)) (Eq.refl (mA v_mates)) t_k196 hs (Eq.refl (mI w0_)) (Eq.refl (mA w1_))) n w0_ w1_
theorem t_pM_matches_b196 {N N_j : Nat} (t_N : N = N_j) {v_grain : Int32} {v_grain_j : Int} (t_v_grain : mI v_grain = v_grain_j) {v_limit : Int32} {v_limit_j : Int} (t_v_limit : mI v_limit = v_limit_j) {v_lost : Int32} {v_lost_j : Int} (t_v_lost : mI v_lost = v_lost_j) {v_cutAt : (Nat → Int32)} {v_cutAt_j : (Nat → Int)} (t_v_cutAt : mA v_cutAt = v_cutAt_j) {v_cutWorth : (Nat → Int32)} {v_cutWorth_j : (Nat → Int)} (t_v_cutWorth : mA v_cutWorth = v_cutWorth_j) {v_cuts : (Nat → Int32)} {v_cuts_j : (Nat → Int)} (t_v_cuts : mA v_cuts = v_cuts_j) {self : Int32 → (Nat → Int32) → Option R_pM_matches} {self_j : Int → (Nat → Int) → Option R_iM_matches} (t_self : ∀ (q0_ : Int32) (q1_ : (Nat → Int32)), tl (mP mA (mP mA (mP mA mA))) (self_j (mI q0_) (mA q1_)) (self q0_ q1_)) {k202 : (Nat → Int32) → Option R_pM_matches} {k202_j : (Nat → Int) → Option R_iM_matches} (t_k202 : ∀ (q0_ : (Nat → Int32)), tl (mP mA (mP mA (mP mA mA))) (k202_j (mA q0_)) (k202 q0_)) {x1 : Int32} {x1_j : Int} (t_x1 : mI x1 = x1_j) {v_best : (Nat → Int32)} {v_best_j : (Nat → Int)} (t_v_best : mA v_best = v_best_j) {v_cost : (Nat → Int32)} {v_cost_j : (Nat → Int)} (t_v_cost : mA v_cost = v_cost_j) {v_fits : (Nat → Int32)} {v_fits_j : (Nat → Int)} (t_v_fits : mA v_fits = v_fits_j) {v_mates : (Nat → Int32)} {v_mates_j : (Nat → Int)} (t_v_mates : mA v_mates = v_mates_j) : tl (mP mA (mP mA (mP mA mA))) (iM_matches_b196 N_j v_grain_j v_limit_j v_lost_j v_cutAt_j v_cutWorth_j v_cuts_j self_j k202_j x1_j v_best_j v_cost_j v_fits_j v_mates_j) (pM_matches_b196 N v_grain v_limit v_lost v_cutAt v_cutWorth v_cuts self k202 x1 v_best v_cost v_fits v_mates) := by
  subst t_N
  subst t_v_grain
  subst t_v_limit
  subst t_v_lost
  subst t_v_cutAt
  subst t_v_cutWorth
  subst t_v_cuts
  subst t_x1
  subst t_v_best
  subst t_v_cost
  subst t_v_fits
  subst t_v_mates
  unfold iM_matches_b196 pM_matches_b196
  refine tl_g (fun h1 => ?_)
  exact (tl_e2 (ja_add (Eq.refl (mI x1)) jlitI_m1 h1) (Eq.refl (mA v_best)) (t_self _ _))
theorem t_pM_matches_b101_F {N N_j : Nat} (t_N : N = N_j) {v_grain : Int32} {v_grain_j : Int} (t_v_grain : mI v_grain = v_grain_j) {v_limit : Int32} {v_limit_j : Int} (t_v_limit : mI v_limit = v_limit_j) {v_lost : Int32} {v_lost_j : Int} (t_v_lost : mI v_lost = v_lost_j) {v_cutAt : (Nat → Int32)} {v_cutAt_j : (Nat → Int)} (t_v_cutAt : mA v_cutAt = v_cutAt_j) {v_cutWorth : (Nat → Int32)} {v_cutWorth_j : (Nat → Int)} (t_v_cutWorth : mA v_cutWorth = v_cutWorth_j) {v_cuts : (Nat → Int32)} {v_cuts_j : (Nat → Int)} (t_v_cuts : mA v_cuts = v_cuts_j) {v_cost : (Nat → Int32)} {v_cost_j : (Nat → Int)} (t_v_cost : mA v_cost = v_cost_j) {v_fits : (Nat → Int32)} {v_fits_j : (Nat → Int)} (t_v_fits : mA v_fits = v_fits_j) {v_mates : (Nat → Int32)} {v_mates_j : (Nat → Int)} (t_v_mates : mA v_mates = v_mates_j) {k202 : (Nat → Int32) → Option R_pM_matches} {k202_j : (Nat → Int) → Option R_iM_matches} (t_k202 : ∀ (q0_ : (Nat → Int32)), tl (mP mA (mP mA (mP mA mA))) (k202_j (mA q0_)) (k202 q0_)) {self : Int32 → (Nat → Int32) → Option R_pM_matches} {self_j : Int → (Nat → Int) → Option R_iM_matches} (t_self : ∀ (q0_ : Int32) (q1_ : (Nat → Int32)), tl (mP mA (mP mA (mP mA mA))) (self_j (mI q0_) (mA q1_)) (self q0_ q1_)) {x1 : Int32} {x1_j : Int} (t_x1 : mI x1 = x1_j) {v_best : (Nat → Int32)} {v_best_j : (Nat → Int)} (t_v_best : mA v_best = v_best_j) : tl (mP mA (mP mA (mP mA mA))) (iM_matches_b101_F N_j v_grain_j v_limit_j v_lost_j v_cutAt_j v_cutWorth_j v_cuts_j v_cost_j v_fits_j v_mates_j k202_j self_j x1_j v_best_j) (pM_matches_b101_F N v_grain v_limit v_lost v_cutAt v_cutWorth v_cuts v_cost v_fits v_mates k202 self x1 v_best) := by
  subst t_N
  subst t_v_grain
  subst t_v_limit
  subst t_v_lost
  subst t_v_cutAt
  subst t_v_cutWorth
  subst t_v_cuts
  subst t_v_cost
  subst t_v_fits
  subst t_v_mates
  subst t_x1
  subst t_v_best
  unfold iM_matches_b101_F pM_matches_b101_F
  refine tl_ite (jc_lt (Eq.refl (mI x1)) jlitI_0) ?_ ?_
  · exact (tl_e1 (Eq.refl (mA v_best)) (t_k202 _))
  · exact (t_pM_matches_b107 (Eq.refl N) (Eq.refl (mI v_grain)) (Eq.refl (mI v_limit)) (Eq.refl (mI v_lost)) (Eq.refl (mA v_cutAt)) (Eq.refl (mA v_cutWorth)) (Eq.refl (mA v_cuts)) (Eq.refl (mI x1)) (Eq.refl (mA v_cost)) (Eq.refl (mA v_fits)) (Eq.refl (mA v_mates)) (fun v_best_k7 => by exact (t_pM_matches_b196 (Eq.refl N) (Eq.refl (mI v_grain)) (Eq.refl (mI v_limit)) (Eq.refl (mI v_lost)) (Eq.refl (mA v_cutAt)) (Eq.refl (mA v_cutWorth)) (Eq.refl (mA v_cuts)) t_self t_k202 (Eq.refl (mI x1)) (Eq.refl (mA v_best_k7)) (Eq.refl (mA v_cost)) (Eq.refl (mA v_fits)) (Eq.refl (mA v_mates)))) (Eq.refl N) jlitI_0 (Eq.refl (mA v_best)))
theorem t_pM_matches_b101 {N N_j : Nat} (t_N : N = N_j) {v_grain : Int32} {v_grain_j : Int} (t_v_grain : mI v_grain = v_grain_j) {v_limit : Int32} {v_limit_j : Int} (t_v_limit : mI v_limit = v_limit_j) {v_lost : Int32} {v_lost_j : Int} (t_v_lost : mI v_lost = v_lost_j) {v_cutAt : (Nat → Int32)} {v_cutAt_j : (Nat → Int)} (t_v_cutAt : mA v_cutAt = v_cutAt_j) {v_cutWorth : (Nat → Int32)} {v_cutWorth_j : (Nat → Int)} (t_v_cutWorth : mA v_cutWorth = v_cutWorth_j) {v_cuts : (Nat → Int32)} {v_cuts_j : (Nat → Int)} (t_v_cuts : mA v_cuts = v_cuts_j) {v_cost : (Nat → Int32)} {v_cost_j : (Nat → Int)} (t_v_cost : mA v_cost = v_cost_j) {v_fits : (Nat → Int32)} {v_fits_j : (Nat → Int)} (t_v_fits : mA v_fits = v_fits_j) {v_mates : (Nat → Int32)} {v_mates_j : (Nat → Int)} (t_v_mates : mA v_mates = v_mates_j) {k202 : (Nat → Int32) → Option R_pM_matches} {k202_j : (Nat → Int) → Option R_iM_matches} (t_k202 : ∀ (q0_ : (Nat → Int32)), tl (mP mA (mP mA (mP mA mA))) (k202_j (mA q0_)) (k202 q0_)) {n n_j : Nat} (t_n : n = n_j) {w0_ : Int32} {w0__j : Int} (t_w0_ : mI w0_ = w0__j) {w1_ : (Nat → Int32)} {w1__j : (Nat → Int)} (t_w1_ : mA w1_ = w1__j) : tl (mP mA (mP mA (mP mA mA))) (iM_matches_b101 N_j v_grain_j v_limit_j v_lost_j v_cutAt_j v_cutWorth_j v_cuts_j v_cost_j v_fits_j v_mates_j k202_j n_j w0__j w1__j) (pM_matches_b101 N v_grain v_limit v_lost v_cutAt v_cutWorth v_cuts v_cost v_fits v_mates k202 n w0_ w1_) := by
  subst t_N
  subst t_v_grain
  subst t_v_limit
  subst t_v_lost
  subst t_v_cutAt
  subst t_v_cutWorth
  subst t_v_cuts
  subst t_v_cost
  subst t_v_fits
  subst t_v_mates
  subst t_n
  subst t_w0_
  subst t_w1_
  exact tl_zlp2 (fun s2 s hs w0_ w1_ => t_pM_matches_b101_F (Eq.refl N) (Eq.refl (mI v_grain)) (Eq.refl (mI v_limit)) (Eq.refl (mI v_lost)) (Eq.refl (mA v_cutAt)) (Eq.refl (mA v_cutWorth)) (Eq.refl (mA v_cuts)) (Eq.refl (mA v_cost)) (Eq.refl (mA v_fits)) (Eq.refl (mA v_mates)) t_k202 hs (Eq.refl (mI w0_)) (Eq.refl (mA w1_))) n w0_ w1_
theorem t_pM_matches_b222_F {N N_j : Nat} (t_N : N = N_j) {v_grain : Int32} {v_grain_j : Int} (t_v_grain : mI v_grain = v_grain_j) {v_limit : Int32} {v_limit_j : Int} (t_v_limit : mI v_limit = v_limit_j) {v_lost : Int32} {v_lost_j : Int} (t_v_lost : mI v_lost = v_lost_j) {v_cutAt : (Nat → Int32)} {v_cutAt_j : (Nat → Int)} (t_v_cutAt : mA v_cutAt = v_cutAt_j) {v_cutWorth : (Nat → Int32)} {v_cutWorth_j : (Nat → Int)} (t_v_cutWorth : mA v_cutWorth = v_cutWorth_j) {v_cuts : (Nat → Int32)} {v_cuts_j : (Nat → Int)} (t_v_cuts : mA v_cuts = v_cuts_j) {x1 : Int32} {x1_j : Int} (t_x1 : mI x1 = x1_j) {x2 : Int32} {x2_j : Int} (t_x2 : mI x2 = x2_j) {v_best : (Nat → Int32)} {v_best_j : (Nat → Int)} (t_v_best : mA v_best = v_best_j) {v_cost : (Nat → Int32)} {v_cost_j : (Nat → Int)} (t_v_cost : mA v_cost = v_cost_j) {v_fits : (Nat → Int32)} {v_fits_j : (Nat → Int)} (t_v_fits : mA v_fits = v_fits_j) {k271 : (Nat → Int32) → Option R_pM_matches} {k271_j : (Nat → Int) → Option R_iM_matches} (t_k271 : ∀ (q0_ : (Nat → Int32)), tl (mP mA (mP mA (mP mA mA))) (k271_j (mA q0_)) (k271 q0_)) {self : Int32 → (Nat → Int32) → Option R_pM_matches} {self_j : Int → (Nat → Int) → Option R_iM_matches} (t_self : ∀ (q0_ : Int32) (q1_ : (Nat → Int32)), tl (mP mA (mP mA (mP mA mA))) (self_j (mI q0_) (mA q1_)) (self q0_ q1_)) {x3 : Int32} {x3_j : Int} (t_x3 : mI x3 = x3_j) {v_mates : (Nat → Int32)} {v_mates_j : (Nat → Int)} (t_v_mates : mA v_mates = v_mates_j) : tl (mP mA (mP mA (mP mA mA))) (iM_matches_b222_F N_j v_grain_j v_limit_j v_lost_j v_cutAt_j v_cutWorth_j v_cuts_j x1_j x2_j v_best_j v_cost_j v_fits_j k271_j self_j x3_j v_mates_j) (pM_matches_b222_F N v_grain v_limit v_lost v_cutAt v_cutWorth v_cuts x1 x2 v_best v_cost v_fits k271 self x3 v_mates) := by
  subst t_N
  subst t_v_grain
  subst t_v_limit
  subst t_v_lost
  subst t_v_cutAt
  subst t_v_cutWorth
  subst t_v_cuts
  subst t_x1
  subst t_x2
  subst t_v_best
  subst t_v_cost
  subst t_v_fits
  subst t_x3
  subst t_v_mates
  unfold iM_matches_b222_F pM_matches_b222_F
  refine tl_ite (jc_lt (Eq.refl (mI x3)) jlitI_0) ?_ ?_
  · exact (tl_e1 (Eq.refl (mA v_mates)) (t_k271 _))
  · refine tl_bd1 (t_pM_canPair (Eq.refl (mI x2)) (Eq.refl (mI x3)) (Eq.refl (mI x1)) (Eq.refl (mI v_limit)) (Eq.refl (mA v_fits))) (fun rc11 => ?_)
    refine tl_ite (jc_eq (Eq.refl (mI rc11)) jlitI_0) ?_ ?_
    · refine tl_g (fun h1 => ?_)
      exact (tl_e2 (ja_add (Eq.refl (mI x3)) jlitI_m1 h1) (Eq.refl (mA v_mates)) (t_self _ _))
    · refine tl_bd1 (t_pM_paired (Eq.refl (mI x2)) (Eq.refl (mI x3)) (Eq.refl (mI x1)) (Eq.refl (mA v_best)) (Eq.refl (mA v_fits))) (fun rc12 => ?_)
      refine tl_g (fun h2 => ?_)
      refine tl_g (fun h3 => ?_)
      refine tl_gd (jg_ib (ja_add (ja_mul jlitI_1024 (Eq.refl (mI x2)) h2) (Eq.refl (mI x1)) h3)) (fun _ => ?_)
      refine tl_ite (jc_eq (Eq.refl (mI rc12)) (jrd (Eq.refl (mA v_best)) (jx (ja_add (ja_mul jlitI_1024 (Eq.refl (mI x2)) h2) (Eq.refl (mI x1)) h3)))) ?_ ?_
      · refine tl_gd (jg_ib (Eq.refl (mI x2))) (fun _ => ?_)
        refine tl_g (fun h4 => ?_)
        exact (tl_e2 (ja_add (Eq.refl (mI x3)) jlitI_m1 h4) (jupA (Eq.refl (mA v_mates)) (jx (Eq.refl (mI x2))) (Eq.refl (mI x3))) (t_self _ _))
      · refine tl_g (fun h5 => ?_)
        exact (tl_e2 (ja_add (Eq.refl (mI x3)) jlitI_m1 h5) (Eq.refl (mA v_mates)) (t_self _ _))
theorem t_pM_matches_b222 {N N_j : Nat} (t_N : N = N_j) {v_grain : Int32} {v_grain_j : Int} (t_v_grain : mI v_grain = v_grain_j) {v_limit : Int32} {v_limit_j : Int} (t_v_limit : mI v_limit = v_limit_j) {v_lost : Int32} {v_lost_j : Int} (t_v_lost : mI v_lost = v_lost_j) {v_cutAt : (Nat → Int32)} {v_cutAt_j : (Nat → Int)} (t_v_cutAt : mA v_cutAt = v_cutAt_j) {v_cutWorth : (Nat → Int32)} {v_cutWorth_j : (Nat → Int)} (t_v_cutWorth : mA v_cutWorth = v_cutWorth_j) {v_cuts : (Nat → Int32)} {v_cuts_j : (Nat → Int)} (t_v_cuts : mA v_cuts = v_cuts_j) {x1 : Int32} {x1_j : Int} (t_x1 : mI x1 = x1_j) {x2 : Int32} {x2_j : Int} (t_x2 : mI x2 = x2_j) {v_best : (Nat → Int32)} {v_best_j : (Nat → Int)} (t_v_best : mA v_best = v_best_j) {v_cost : (Nat → Int32)} {v_cost_j : (Nat → Int)} (t_v_cost : mA v_cost = v_cost_j) {v_fits : (Nat → Int32)} {v_fits_j : (Nat → Int)} (t_v_fits : mA v_fits = v_fits_j) {k271 : (Nat → Int32) → Option R_pM_matches} {k271_j : (Nat → Int) → Option R_iM_matches} (t_k271 : ∀ (q0_ : (Nat → Int32)), tl (mP mA (mP mA (mP mA mA))) (k271_j (mA q0_)) (k271 q0_)) {n n_j : Nat} (t_n : n = n_j) {w0_ : Int32} {w0__j : Int} (t_w0_ : mI w0_ = w0__j) {w1_ : (Nat → Int32)} {w1__j : (Nat → Int)} (t_w1_ : mA w1_ = w1__j) : tl (mP mA (mP mA (mP mA mA))) (iM_matches_b222 N_j v_grain_j v_limit_j v_lost_j v_cutAt_j v_cutWorth_j v_cuts_j x1_j x2_j v_best_j v_cost_j v_fits_j k271_j n_j w0__j w1__j) (pM_matches_b222 N v_grain v_limit v_lost v_cutAt v_cutWorth v_cuts x1 x2 v_best v_cost v_fits k271 n w0_ w1_) := by
  subst t_N
  subst t_v_grain
  subst t_v_limit
  subst t_v_lost
  subst t_v_cutAt
  subst t_v_cutWorth
  subst t_v_cuts
  subst t_x1
  subst t_x2
  subst t_v_best
  subst t_v_cost
  subst t_v_fits
  subst t_n
  subst t_w0_
  subst t_w1_
  exact tl_zlp2 (fun s2 s hs w0_ w1_ => t_pM_matches_b222_F (Eq.refl N) (Eq.refl (mI v_grain)) (Eq.refl (mI v_limit)) (Eq.refl (mI v_lost)) (Eq.refl (mA v_cutAt)) (Eq.refl (mA v_cutWorth)) (Eq.refl (mA v_cuts)) (Eq.refl (mI x1)) (Eq.refl (mI x2)) (Eq.refl (mA v_best)) (Eq.refl (mA v_cost)) (Eq.refl (mA v_fits)) t_k271 hs (Eq.refl (mI w0_)) (Eq.refl (mA w1_))) n w0_ w1_
theorem t_pM_matches_b271 {N N_j : Nat} (t_N : N = N_j) {v_grain : Int32} {v_grain_j : Int} (t_v_grain : mI v_grain = v_grain_j) {v_limit : Int32} {v_limit_j : Int} (t_v_limit : mI v_limit = v_limit_j) {v_lost : Int32} {v_lost_j : Int} (t_v_lost : mI v_lost = v_lost_j) {v_cutAt : (Nat → Int32)} {v_cutAt_j : (Nat → Int)} (t_v_cutAt : mA v_cutAt = v_cutAt_j) {v_cutWorth : (Nat → Int32)} {v_cutWorth_j : (Nat → Int)} (t_v_cutWorth : mA v_cutWorth = v_cutWorth_j) {v_cuts : (Nat → Int32)} {v_cuts_j : (Nat → Int)} (t_v_cuts : mA v_cuts = v_cuts_j) {self : Int32 → Int32 → (Nat → Int32) → Option R_pM_matches} {self_j : Int → Int → (Nat → Int) → Option R_iM_matches} (t_self : ∀ (q0_ : Int32) (q1_ : Int32) (q2_ : (Nat → Int32)), tl (mP mA (mP mA (mP mA mA))) (self_j (mI q0_) (mI q1_) (mA q2_)) (self q0_ q1_ q2_)) {x1 : Int32} {x1_j : Int} (t_x1 : mI x1 = x1_j) {x2 : Int32} {x2_j : Int} (t_x2 : mI x2 = x2_j) {v_best : (Nat → Int32)} {v_best_j : (Nat → Int)} (t_v_best : mA v_best = v_best_j) {v_cost : (Nat → Int32)} {v_cost_j : (Nat → Int)} (t_v_cost : mA v_cost = v_cost_j) {v_fits : (Nat → Int32)} {v_fits_j : (Nat → Int)} (t_v_fits : mA v_fits = v_fits_j) {v_mates : (Nat → Int32)} {v_mates_j : (Nat → Int)} (t_v_mates : mA v_mates = v_mates_j) : tl (mP mA (mP mA (mP mA mA))) (iM_matches_b271 N_j v_grain_j v_limit_j v_lost_j v_cutAt_j v_cutWorth_j v_cuts_j self_j x1_j x2_j v_best_j v_cost_j v_fits_j v_mates_j) (pM_matches_b271 N v_grain v_limit v_lost v_cutAt v_cutWorth v_cuts self x1 x2 v_best v_cost v_fits v_mates) := by
  subst t_N
  subst t_v_grain
  subst t_v_limit
  subst t_v_lost
  subst t_v_cutAt
  subst t_v_cutWorth
  subst t_v_cuts
  subst t_x1
  subst t_x2
  subst t_v_best
  subst t_v_cost
  subst t_v_fits
  subst t_v_mates
  unfold iM_matches_b271 pM_matches_b271
  refine tl_gd (jg_ib (Eq.refl (mI x2))) (fun _ => ?_)
  refine tl_ite (jc_eq (jrd (Eq.refl (mA v_mates)) (jx (Eq.refl (mI x2)))) jlitI_m1) ?_ ?_
  · refine tl_g (fun h1 => ?_)
    exact (tl_e3 (Eq.refl (mI x1)) (ja_add (Eq.refl (mI x2)) jlitI_1 h1) (Eq.refl (mA v_mates)) (t_self _ _ _))
  · refine tl_g (fun h2 => ?_)
    exact (tl_e3 (ja_or (Eq.refl (mI x1)) (ja_shl jlitI_1 (jrd (Eq.refl (mA v_mates)) (jx (Eq.refl (mI x2)))))) (ja_add (Eq.refl (mI x2)) jlitI_1 h2) (Eq.refl (mA v_mates)) (t_self _ _ _))
theorem t_pM_matches_b206_F {N N_j : Nat} (t_N : N = N_j) {v_grain : Int32} {v_grain_j : Int} (t_v_grain : mI v_grain = v_grain_j) {v_limit : Int32} {v_limit_j : Int} (t_v_limit : mI v_limit = v_limit_j) {v_lost : Int32} {v_lost_j : Int} (t_v_lost : mI v_lost = v_lost_j) {v_cutAt : (Nat → Int32)} {v_cutAt_j : (Nat → Int)} (t_v_cutAt : mA v_cutAt = v_cutAt_j) {v_cutWorth : (Nat → Int32)} {v_cutWorth_j : (Nat → Int)} (t_v_cutWorth : mA v_cutWorth = v_cutWorth_j) {v_cuts : (Nat → Int32)} {v_cuts_j : (Nat → Int)} (t_v_cuts : mA v_cuts = v_cuts_j) {v_best : (Nat → Int32)} {v_best_j : (Nat → Int)} (t_v_best : mA v_best = v_best_j) {v_cost : (Nat → Int32)} {v_cost_j : (Nat → Int)} (t_v_cost : mA v_cost = v_cost_j) {v_fits : (Nat → Int32)} {v_fits_j : (Nat → Int)} (t_v_fits : mA v_fits = v_fits_j) {self : Int32 → Int32 → (Nat → Int32) → Option R_pM_matches} {self_j : Int → Int → (Nat → Int) → Option R_iM_matches} (t_self : ∀ (q0_ : Int32) (q1_ : Int32) (q2_ : (Nat → Int32)), tl (mP mA (mP mA (mP mA mA))) (self_j (mI q0_) (mI q1_) (mA q2_)) (self q0_ q1_ q2_)) {x1 : Int32} {x1_j : Int} (t_x1 : mI x1 = x1_j) {x2 : Int32} {x2_j : Int} (t_x2 : mI x2 = x2_j) {v_mates : (Nat → Int32)} {v_mates_j : (Nat → Int)} (t_v_mates : mA v_mates = v_mates_j) : tl (mP mA (mP mA (mP mA mA))) (iM_matches_b206_F N_j v_grain_j v_limit_j v_lost_j v_cutAt_j v_cutWorth_j v_cuts_j v_best_j v_cost_j v_fits_j self_j x1_j x2_j v_mates_j) (pM_matches_b206_F N v_grain v_limit v_lost v_cutAt v_cutWorth v_cuts v_best v_cost v_fits self x1 x2 v_mates) := by
  subst t_N
  subst t_v_grain
  subst t_v_limit
  subst t_v_lost
  subst t_v_cutAt
  subst t_v_cutWorth
  subst t_v_cuts
  subst t_v_best
  subst t_v_cost
  subst t_v_fits
  subst t_x1
  subst t_x2
  subst t_v_mates
  unfold iM_matches_b206_F pM_matches_b206_F
  refine tl_ite (jc_le jlitI_10 (Eq.refl (mI x2))) ?_ ?_
  · exact (tl_some (jp2 (Eq.refl (mA v_best)) (jp2 (Eq.refl (mA v_cost)) (jp2 (Eq.refl (mA v_fits)) (Eq.refl (mA v_mates))))))
  · refine tl_gd (jg_ib (Eq.refl (mI x2))) (fun _ => ?_)
    exact (t_pM_matches_b222 (Eq.refl N) (Eq.refl (mI v_grain)) (Eq.refl (mI v_limit)) (Eq.refl (mI v_lost)) (Eq.refl (mA v_cutAt)) (Eq.refl (mA v_cutWorth)) (Eq.refl (mA v_cuts)) (Eq.refl (mI x1)) (Eq.refl (mI x2)) (Eq.refl (mA v_best)) (Eq.refl (mA v_cost)) (Eq.refl (mA v_fits)) (fun e13_ => by exact (t_pM_matches_b271 (Eq.refl N) (Eq.refl (mI v_grain)) (Eq.refl (mI v_limit)) (Eq.refl (mI v_lost)) (Eq.refl (mA v_cutAt)) (Eq.refl (mA v_cutWorth)) (Eq.refl (mA v_cuts)) t_self (Eq.refl (mI x1)) (Eq.refl (mI x2)) (Eq.refl (mA v_best)) (Eq.refl (mA v_cost)) (Eq.refl (mA v_fits)) (Eq.refl (mA e13_)))) (Eq.refl N) jlitI_9 (jupA (Eq.refl (mA v_mates)) (jx (Eq.refl (mI x2))) jlitI_m1))
theorem t_pM_matches_b206 {N N_j : Nat} (t_N : N = N_j) {v_grain : Int32} {v_grain_j : Int} (t_v_grain : mI v_grain = v_grain_j) {v_limit : Int32} {v_limit_j : Int} (t_v_limit : mI v_limit = v_limit_j) {v_lost : Int32} {v_lost_j : Int} (t_v_lost : mI v_lost = v_lost_j) {v_cutAt : (Nat → Int32)} {v_cutAt_j : (Nat → Int)} (t_v_cutAt : mA v_cutAt = v_cutAt_j) {v_cutWorth : (Nat → Int32)} {v_cutWorth_j : (Nat → Int)} (t_v_cutWorth : mA v_cutWorth = v_cutWorth_j) {v_cuts : (Nat → Int32)} {v_cuts_j : (Nat → Int)} (t_v_cuts : mA v_cuts = v_cuts_j) {v_best : (Nat → Int32)} {v_best_j : (Nat → Int)} (t_v_best : mA v_best = v_best_j) {v_cost : (Nat → Int32)} {v_cost_j : (Nat → Int)} (t_v_cost : mA v_cost = v_cost_j) {v_fits : (Nat → Int32)} {v_fits_j : (Nat → Int)} (t_v_fits : mA v_fits = v_fits_j) {n n_j : Nat} (t_n : n = n_j) {w0_ : Int32} {w0__j : Int} (t_w0_ : mI w0_ = w0__j) {w1_ : Int32} {w1__j : Int} (t_w1_ : mI w1_ = w1__j) {w2_ : (Nat → Int32)} {w2__j : (Nat → Int)} (t_w2_ : mA w2_ = w2__j) : tl (mP mA (mP mA (mP mA mA))) (iM_matches_b206 N_j v_grain_j v_limit_j v_lost_j v_cutAt_j v_cutWorth_j v_cuts_j v_best_j v_cost_j v_fits_j n_j w0__j w1__j w2__j) (pM_matches_b206 N v_grain v_limit v_lost v_cutAt v_cutWorth v_cuts v_best v_cost v_fits n w0_ w1_ w2_) := by
  subst t_N
  subst t_v_grain
  subst t_v_limit
  subst t_v_lost
  subst t_v_cutAt
  subst t_v_cutWorth
  subst t_v_cuts
  subst t_v_best
  subst t_v_cost
  subst t_v_fits
  subst t_n
  subst t_w0_
  subst t_w1_
  subst t_w2_
  exact tl_zlp3 (fun s2 s hs w0_ w1_ w2_ => t_pM_matches_b206_F (Eq.refl N) (Eq.refl (mI v_grain)) (Eq.refl (mI v_limit)) (Eq.refl (mI v_lost)) (Eq.refl (mA v_cutAt)) (Eq.refl (mA v_cutWorth)) (Eq.refl (mA v_cuts)) (Eq.refl (mA v_best)) (Eq.refl (mA v_cost)) (Eq.refl (mA v_fits)) hs (Eq.refl (mI w0_)) (Eq.refl (mI w1_)) (Eq.refl (mA w2_))) n w0_ w1_ w2_
theorem t_pM_matches_b202 {N N_j : Nat} (t_N : N = N_j) {v_grain : Int32} {v_grain_j : Int} (t_v_grain : mI v_grain = v_grain_j) {v_limit : Int32} {v_limit_j : Int} (t_v_limit : mI v_limit = v_limit_j) {v_lost : Int32} {v_lost_j : Int} (t_v_lost : mI v_lost = v_lost_j) {v_cutAt : (Nat → Int32)} {v_cutAt_j : (Nat → Int)} (t_v_cutAt : mA v_cutAt = v_cutAt_j) {v_cutWorth : (Nat → Int32)} {v_cutWorth_j : (Nat → Int)} (t_v_cutWorth : mA v_cutWorth = v_cutWorth_j) {v_cuts : (Nat → Int32)} {v_cuts_j : (Nat → Int)} (t_v_cuts : mA v_cuts = v_cuts_j) {v_best : (Nat → Int32)} {v_best_j : (Nat → Int)} (t_v_best : mA v_best = v_best_j) {v_cost : (Nat → Int32)} {v_cost_j : (Nat → Int)} (t_v_cost : mA v_cost = v_cost_j) {v_fits : (Nat → Int32)} {v_fits_j : (Nat → Int)} (t_v_fits : mA v_fits = v_fits_j) {v_mates : (Nat → Int32)} {v_mates_j : (Nat → Int)} (t_v_mates : mA v_mates = v_mates_j) : tl (mP mA (mP mA (mP mA mA))) (iM_matches_b202 N_j v_grain_j v_limit_j v_lost_j v_cutAt_j v_cutWorth_j v_cuts_j v_best_j v_cost_j v_fits_j v_mates_j) (pM_matches_b202 N v_grain v_limit v_lost v_cutAt v_cutWorth v_cuts v_best v_cost v_fits v_mates) := by
  subst t_N
  subst t_v_grain
  subst t_v_limit
  subst t_v_lost
  subst t_v_cutAt
  subst t_v_cutWorth
  subst t_v_cuts
  subst t_v_best
  subst t_v_cost
  subst t_v_fits
  subst t_v_mates
  unfold iM_matches_b202 pM_matches_b202
  exact (t_pM_matches_b206 (Eq.refl N) (Eq.refl (mI v_grain)) (Eq.refl (mI v_limit)) (Eq.refl (mI v_lost)) (Eq.refl (mA v_cutAt)) (Eq.refl (mA v_cutWorth)) (Eq.refl (mA v_cuts)) (Eq.refl (mA v_best)) (Eq.refl (mA v_cost)) (Eq.refl (mA v_fits)) (Eq.refl N) jlitI_0 jlitI_0 (Eq.refl (mA v_mates)))
theorem t_pM_matches_b98 {N N_j : Nat} (t_N : N = N_j) {v_grain : Int32} {v_grain_j : Int} (t_v_grain : mI v_grain = v_grain_j) {v_limit : Int32} {v_limit_j : Int} (t_v_limit : mI v_limit = v_limit_j) {v_lost : Int32} {v_lost_j : Int} (t_v_lost : mI v_lost = v_lost_j) {v_cutAt : (Nat → Int32)} {v_cutAt_j : (Nat → Int)} (t_v_cutAt : mA v_cutAt = v_cutAt_j) {v_cutWorth : (Nat → Int32)} {v_cutWorth_j : (Nat → Int)} (t_v_cutWorth : mA v_cutWorth = v_cutWorth_j) {v_cuts : (Nat → Int32)} {v_cuts_j : (Nat → Int)} (t_v_cuts : mA v_cuts = v_cuts_j) {v_best : (Nat → Int32)} {v_best_j : (Nat → Int)} (t_v_best : mA v_best = v_best_j) {v_cost : (Nat → Int32)} {v_cost_j : (Nat → Int)} (t_v_cost : mA v_cost = v_cost_j) {v_fits : (Nat → Int32)} {v_fits_j : (Nat → Int)} (t_v_fits : mA v_fits = v_fits_j) {v_mates : (Nat → Int32)} {v_mates_j : (Nat → Int)} (t_v_mates : mA v_mates = v_mates_j) : tl (mP mA (mP mA (mP mA mA))) (iM_matches_b98 N_j v_grain_j v_limit_j v_lost_j v_cutAt_j v_cutWorth_j v_cuts_j v_best_j v_cost_j v_fits_j v_mates_j) (pM_matches_b98 N v_grain v_limit v_lost v_cutAt v_cutWorth v_cuts v_best v_cost v_fits v_mates) := by
  subst t_N
  subst t_v_grain
  subst t_v_limit
  subst t_v_lost
  subst t_v_cutAt
  subst t_v_cutWorth
  subst t_v_cuts
  subst t_v_best
  subst t_v_cost
  subst t_v_fits
  subst t_v_mates
  unfold iM_matches_b98 pM_matches_b98
  exact (t_pM_matches_b101 (Eq.refl N) (Eq.refl (mI v_grain)) (Eq.refl (mI v_limit)) (Eq.refl (mI v_lost)) (Eq.refl (mA v_cutAt)) (Eq.refl (mA v_cutWorth)) (Eq.refl (mA v_cuts)) (Eq.refl (mA v_cost)) (Eq.refl (mA v_fits)) (Eq.refl (mA v_mates)) (fun v_best_k8 => by exact (t_pM_matches_b202 (Eq.refl N) (Eq.refl (mI v_grain)) (Eq.refl (mI v_limit)) (Eq.refl (mI v_lost)) (Eq.refl (mA v_cutAt)) (Eq.refl (mA v_cutWorth)) (Eq.refl (mA v_cuts)) (Eq.refl (mA v_best_k8)) (Eq.refl (mA v_cost)) (Eq.refl (mA v_fits)) (Eq.refl (mA v_mates)))) (Eq.refl N) jlitI_9 (Eq.refl (mA v_best)))
theorem t_pM_matches_b72 {N N_j : Nat} (t_N : N = N_j) {v_grain : Int32} {v_grain_j : Int} (t_v_grain : mI v_grain = v_grain_j) {v_limit : Int32} {v_limit_j : Int} (t_v_limit : mI v_limit = v_limit_j) {v_lost : Int32} {v_lost_j : Int} (t_v_lost : mI v_lost = v_lost_j) {v_cutAt : (Nat → Int32)} {v_cutAt_j : (Nat → Int)} (t_v_cutAt : mA v_cutAt = v_cutAt_j) {v_cutWorth : (Nat → Int32)} {v_cutWorth_j : (Nat → Int)} (t_v_cutWorth : mA v_cutWorth = v_cutWorth_j) {v_cuts : (Nat → Int32)} {v_cuts_j : (Nat → Int)} (t_v_cuts : mA v_cuts = v_cuts_j) {v_best : (Nat → Int32)} {v_best_j : (Nat → Int)} (t_v_best : mA v_best = v_best_j) {v_cost : (Nat → Int32)} {v_cost_j : (Nat → Int)} (t_v_cost : mA v_cost = v_cost_j) {v_fits : (Nat → Int32)} {v_fits_j : (Nat → Int)} (t_v_fits : mA v_fits = v_fits_j) {v_mates : (Nat → Int32)} {v_mates_j : (Nat → Int)} (t_v_mates : mA v_mates = v_mates_j) : tl (mP mA (mP mA (mP mA mA))) (iM_matches_b72 N_j v_grain_j v_limit_j v_lost_j v_cutAt_j v_cutWorth_j v_cuts_j v_best_j v_cost_j v_fits_j v_mates_j) (pM_matches_b72 N v_grain v_limit v_lost v_cutAt v_cutWorth v_cuts v_best v_cost v_fits v_mates) := by
  subst t_N
  subst t_v_grain
  subst t_v_limit
  subst t_v_lost
  subst t_v_cutAt
  subst t_v_cutWorth
  subst t_v_cuts
  subst t_v_best
  subst t_v_cost
  subst t_v_fits
  subst t_v_mates
  unfold iM_matches_b72 pM_matches_b72
  exact (t_pM_matches_b74 (Eq.refl N) (Eq.refl (mI v_grain)) (Eq.refl (mI v_limit)) (Eq.refl (mI v_lost)) (Eq.refl (mA v_cutAt)) (Eq.refl (mA v_cutWorth)) (Eq.refl (mA v_cuts)) (Eq.refl (mA v_cost)) (Eq.refl (mA v_fits)) (Eq.refl (mA v_mates)) (fun v_best_k5 => by exact (t_pM_matches_b98 (Eq.refl N) (Eq.refl (mI v_grain)) (Eq.refl (mI v_limit)) (Eq.refl (mI v_lost)) (Eq.refl (mA v_cutAt)) (Eq.refl (mA v_cutWorth)) (Eq.refl (mA v_cuts)) (Eq.refl (mA v_best_k5)) (Eq.refl (mA v_cost)) (Eq.refl (mA v_fits)) (Eq.refl (mA v_mates)))) (Eq.refl N) jlitI_0 (Eq.refl (mA v_best)))
theorem t_pM_matches {N N_j : Nat} (t_N : N = N_j) {v_grain : Int32} {v_grain_j : Int} (t_v_grain : mI v_grain = v_grain_j) {v_limit : Int32} {v_limit_j : Int} (t_v_limit : mI v_limit = v_limit_j) {v_lost : Int32} {v_lost_j : Int} (t_v_lost : mI v_lost = v_lost_j) {v_best : (Nat → Int32)} {v_best_j : (Nat → Int)} (t_v_best : mA v_best = v_best_j) {v_cost : (Nat → Int32)} {v_cost_j : (Nat → Int)} (t_v_cost : mA v_cost = v_cost_j) {v_cutAt : (Nat → Int32)} {v_cutAt_j : (Nat → Int)} (t_v_cutAt : mA v_cutAt = v_cutAt_j) {v_cutWorth : (Nat → Int32)} {v_cutWorth_j : (Nat → Int)} (t_v_cutWorth : mA v_cutWorth = v_cutWorth_j) {v_cuts : (Nat → Int32)} {v_cuts_j : (Nat → Int)} (t_v_cuts : mA v_cuts = v_cuts_j) {v_fits : (Nat → Int32)} {v_fits_j : (Nat → Int)} (t_v_fits : mA v_fits = v_fits_j) {v_mates : (Nat → Int32)} {v_mates_j : (Nat → Int)} (t_v_mates : mA v_mates = v_mates_j) : tl (mP mA (mP mA (mP mA mA))) (iM_matches N_j v_grain_j v_limit_j v_lost_j v_best_j v_cost_j v_cutAt_j v_cutWorth_j v_cuts_j v_fits_j v_mates_j) (pM_matches N v_grain v_limit v_lost v_best v_cost v_cutAt v_cutWorth v_cuts v_fits v_mates) := by
  subst t_N
  subst t_v_grain
  subst t_v_limit
  subst t_v_lost
  subst t_v_best
  subst t_v_cost
  subst t_v_cutAt
  subst t_v_cutWorth
  subst t_v_cuts
  subst t_v_fits
  subst t_v_mates
  unfold iM_matches pM_matches
  exact (t_pM_matches_b2 (Eq.refl N) (Eq.refl (mI v_grain)) (Eq.refl (mI v_limit)) (Eq.refl (mI v_lost)) (Eq.refl (mA v_cutAt)) (Eq.refl (mA v_cutWorth)) (Eq.refl (mA v_cuts)) (Eq.refl (mA v_best)) (Eq.refl (mA v_mates)) (fun v_cost_k3 v_fits_k4 => by exact (t_pM_matches_b72 (Eq.refl N) (Eq.refl (mI v_grain)) (Eq.refl (mI v_limit)) (Eq.refl (mI v_lost)) (Eq.refl (mA v_cutAt)) (Eq.refl (mA v_cutWorth)) (Eq.refl (mA v_cuts)) (Eq.refl (mA v_best)) (Eq.refl (mA v_cost_k3)) (Eq.refl (mA v_fits_k4)) (Eq.refl (mA v_mates)))) (Eq.refl N) jlitI_0 (Eq.refl (mA v_cost)) (Eq.refl (mA v_fits)))
theorem t_pM_mate {N N_j : Nat} (t_N : N = N_j) {a1 : Int32} {a1_j : Int} (t_a1 : mI a1 = a1_j) {v_grain : Int32} {v_grain_j : Int} (t_v_grain : mI v_grain = v_grain_j) {v_limit : Int32} {v_limit_j : Int} (t_v_limit : mI v_limit = v_limit_j) {v_lost : Int32} {v_lost_j : Int} (t_v_lost : mI v_lost = v_lost_j) {v_best : (Nat → Int32)} {v_best_j : (Nat → Int)} (t_v_best : mA v_best = v_best_j) {v_cost : (Nat → Int32)} {v_cost_j : (Nat → Int)} (t_v_cost : mA v_cost = v_cost_j) {v_cutAt : (Nat → Int32)} {v_cutAt_j : (Nat → Int)} (t_v_cutAt : mA v_cutAt = v_cutAt_j) {v_cutWorth : (Nat → Int32)} {v_cutWorth_j : (Nat → Int)} (t_v_cutWorth : mA v_cutWorth = v_cutWorth_j) {v_cuts : (Nat → Int32)} {v_cuts_j : (Nat → Int)} (t_v_cuts : mA v_cuts = v_cuts_j) {v_fits : (Nat → Int32)} {v_fits_j : (Nat → Int)} (t_v_fits : mA v_fits = v_fits_j) {v_mates : (Nat → Int32)} {v_mates_j : (Nat → Int)} (t_v_mates : mA v_mates = v_mates_j) : tl (mP mI (mP mA (mP mA (mP mA mA)))) (iM_mate N_j a1_j v_grain_j v_limit_j v_lost_j v_best_j v_cost_j v_cutAt_j v_cutWorth_j v_cuts_j v_fits_j v_mates_j) (pM_mate N a1 v_grain v_limit v_lost v_best v_cost v_cutAt v_cutWorth v_cuts v_fits v_mates) := by
  subst t_N
  subst t_a1
  subst t_v_grain
  subst t_v_limit
  subst t_v_lost
  subst t_v_best
  subst t_v_cost
  subst t_v_cutAt
  subst t_v_cutWorth
  subst t_v_cuts
  subst t_v_fits
  subst t_v_mates
  unfold iM_mate pM_mate
  refine tl_bd1 (t_pM_isIn (ja_i2l (Eq.refl (mI a1))) jlitJ_0 jlitJ_9) (fun rc1 => ?_)
  refine tl_ite (jc_eq (Eq.refl (mI rc1)) jlitI_0) ?_ ?_
  · exact (tl_some (jp2 jlitI_m1 (jp2 (Eq.refl (mA v_best)) (jp2 (Eq.refl (mA v_cost)) (jp2 (Eq.refl (mA v_fits)) (Eq.refl (mA v_mates)))))))
  · refine tl_bd4 (t_pM_matches (Eq.refl N) (Eq.refl (mI v_grain)) (Eq.refl (mI v_limit)) (Eq.refl (mI v_lost)) (Eq.refl (mA v_best)) (Eq.refl (mA v_cost)) (Eq.refl (mA v_cutAt)) (Eq.refl (mA v_cutWorth)) (Eq.refl (mA v_cuts)) (Eq.refl (mA v_fits)) (Eq.refl (mA v_mates))) (fun v_best_c2 v_cost_c2 v_fits_c2 v_mates_c2 => ?_)
    refine tl_gd (jg_ib (Eq.refl (mI a1))) (fun _ => ?_)
    exact (tl_some (jp2 (jrd (Eq.refl (mA v_mates_c2)) (jx (Eq.refl (mI a1)))) (jp2 (Eq.refl (mA v_best_c2)) (jp2 (Eq.refl (mA v_cost_c2)) (jp2 (Eq.refl (mA v_fits_c2)) (Eq.refl (mA v_mates_c2)))))))
theorem t_pM_matched_b22_F {N N_j : Nat} (t_N : N = N_j) {a1 : Int32} {a1_j : Int} (t_a1 : mI a1 = a1_j) {v_grain : Int32} {v_grain_j : Int} (t_v_grain : mI v_grain = v_grain_j) {v_limit : Int32} {v_limit_j : Int} (t_v_limit : mI v_limit = v_limit_j) {v_lost : Int32} {v_lost_j : Int} (t_v_lost : mI v_lost = v_lost_j) {v_cutAt : (Nat → Int32)} {v_cutAt_j : (Nat → Int)} (t_v_cutAt : mA v_cutAt = v_cutAt_j) {v_cutWorth : (Nat → Int32)} {v_cutWorth_j : (Nat → Int)} (t_v_cutWorth : mA v_cutWorth = v_cutWorth_j) {v_cuts : (Nat → Int32)} {v_cuts_j : (Nat → Int)} (t_v_cuts : mA v_cuts = v_cuts_j) {v_best : (Nat → Int32)} {v_best_j : (Nat → Int)} (t_v_best : mA v_best = v_best_j) {v_cost : (Nat → Int32)} {v_cost_j : (Nat → Int)} (t_v_cost : mA v_cost = v_cost_j) {v_fits : (Nat → Int32)} {v_fits_j : (Nat → Int)} (t_v_fits : mA v_fits = v_fits_j) {v_mates : (Nat → Int32)} {v_mates_j : (Nat → Int)} (t_v_mates : mA v_mates = v_mates_j) {k73 : Int32 → Int32 → Option R_pM_matched} {k73_j : Int → Int → Option R_iM_matched} (t_k73 : ∀ (q0_ : Int32) (q1_ : Int32), tl (mP mI (mP mA (mP mA (mP mA mA)))) (k73_j (mI q0_) (mI q1_)) (k73 q0_ q1_)) {self : Int32 → Int32 → Int32 → Option R_pM_matched} {self_j : Int → Int → Int → Option R_iM_matched} (t_self : ∀ (q0_ : Int32) (q1_ : Int32) (q2_ : Int32), tl (mP mI (mP mA (mP mA (mP mA mA)))) (self_j (mI q0_) (mI q1_) (mI q2_)) (self q0_ q1_ q2_)) {x2 : Int32} {x2_j : Int} (t_x2 : mI x2 = x2_j) {x3 : Int32} {x3_j : Int} (t_x3 : mI x3 = x3_j) {x4 : Int32} {x4_j : Int} (t_x4 : mI x4 = x4_j) : tl (mP mI (mP mA (mP mA (mP mA mA)))) (iM_matched_b22_F N_j a1_j v_grain_j v_limit_j v_lost_j v_cutAt_j v_cutWorth_j v_cuts_j v_best_j v_cost_j v_fits_j v_mates_j k73_j self_j x2_j x3_j x4_j) (pM_matched_b22_F N a1 v_grain v_limit v_lost v_cutAt v_cutWorth v_cuts v_best v_cost v_fits v_mates k73 self x2 x3 x4) := by
  subst t_N
  subst t_a1
  subst t_v_grain
  subst t_v_limit
  subst t_v_lost
  subst t_v_cutAt
  subst t_v_cutWorth
  subst t_v_cuts
  subst t_v_best
  subst t_v_cost
  subst t_v_fits
  subst t_v_mates
  subst t_x2
  subst t_x3
  subst t_x4
  unfold iM_matched_b22_F pM_matched_b22_F
  refine tl_ite (jc_le jlitI_10 (Eq.refl (mI x4))) ?_ ?_
  · exact (tl_e2 (Eq.refl (mI x2)) (Eq.refl (mI x3)) (t_k73 _ _))
  · refine tl_gd (jg_ib (Eq.refl (mI x4))) (fun _ => ?_)
    refine tl_ite (jc_eq (jrd (Eq.refl (mA v_mates)) (jx (Eq.refl (mI x4)))) jlitI_m1) ?_ ?_
    · refine tl_g (fun h1 => ?_)
      exact (tl_e3 (Eq.refl (mI x2)) (Eq.refl (mI x3)) (ja_add (Eq.refl (mI x4)) jlitI_1 h1) (t_self _ _ _))
    · refine tl_g (fun h2 => ?_)
      refine tl_g (fun h3 => ?_)
      refine tl_gd (jg_ib (ja_add (ja_mul jlitI_10 (Eq.refl (mI x4)) h2) (jrd (Eq.refl (mA v_mates)) (jx (Eq.refl (mI x4)))) h3)) (fun _ => ?_)
      refine tl_g (fun h4 => ?_)
      refine tl_g (fun h5 => ?_)
      refine tl_g (fun h6 => ?_)
      exact (tl_e3 (ja_add (Eq.refl (mI x2)) jlitI_1 h4) (ja_add (Eq.refl (mI x3)) (jrd (Eq.refl (mA v_fits)) (jx (ja_add (ja_mul jlitI_10 (Eq.refl (mI x4)) h2) (jrd (Eq.refl (mA v_mates)) (jx (Eq.refl (mI x4)))) h3))) h5) (ja_add (Eq.refl (mI x4)) jlitI_1 h6) (t_self _ _ _))
theorem t_pM_matched_b22 {N N_j : Nat} (t_N : N = N_j) {a1 : Int32} {a1_j : Int} (t_a1 : mI a1 = a1_j) {v_grain : Int32} {v_grain_j : Int} (t_v_grain : mI v_grain = v_grain_j) {v_limit : Int32} {v_limit_j : Int} (t_v_limit : mI v_limit = v_limit_j) {v_lost : Int32} {v_lost_j : Int} (t_v_lost : mI v_lost = v_lost_j) {v_cutAt : (Nat → Int32)} {v_cutAt_j : (Nat → Int)} (t_v_cutAt : mA v_cutAt = v_cutAt_j) {v_cutWorth : (Nat → Int32)} {v_cutWorth_j : (Nat → Int)} (t_v_cutWorth : mA v_cutWorth = v_cutWorth_j) {v_cuts : (Nat → Int32)} {v_cuts_j : (Nat → Int)} (t_v_cuts : mA v_cuts = v_cuts_j) {v_best : (Nat → Int32)} {v_best_j : (Nat → Int)} (t_v_best : mA v_best = v_best_j) {v_cost : (Nat → Int32)} {v_cost_j : (Nat → Int)} (t_v_cost : mA v_cost = v_cost_j) {v_fits : (Nat → Int32)} {v_fits_j : (Nat → Int)} (t_v_fits : mA v_fits = v_fits_j) {v_mates : (Nat → Int32)} {v_mates_j : (Nat → Int)} (t_v_mates : mA v_mates = v_mates_j) {k73 : Int32 → Int32 → Option R_pM_matched} {k73_j : Int → Int → Option R_iM_matched} (t_k73 : ∀ (q0_ : Int32) (q1_ : Int32), tl (mP mI (mP mA (mP mA (mP mA mA)))) (k73_j (mI q0_) (mI q1_)) (k73 q0_ q1_)) {n n_j : Nat} (t_n : n = n_j) {w0_ : Int32} {w0__j : Int} (t_w0_ : mI w0_ = w0__j) {w1_ : Int32} {w1__j : Int} (t_w1_ : mI w1_ = w1__j) {w2_ : Int32} {w2__j : Int} (t_w2_ : mI w2_ = w2__j) : tl (mP mI (mP mA (mP mA (mP mA mA)))) (iM_matched_b22 N_j a1_j v_grain_j v_limit_j v_lost_j v_cutAt_j v_cutWorth_j v_cuts_j v_best_j v_cost_j v_fits_j v_mates_j k73_j n_j w0__j w1__j w2__j) (pM_matched_b22 N a1 v_grain v_limit v_lost v_cutAt v_cutWorth v_cuts v_best v_cost v_fits v_mates k73 n w0_ w1_ w2_) := by
  subst t_N
  subst t_a1
  subst t_v_grain
  subst t_v_limit
  subst t_v_lost
  subst t_v_cutAt
  subst t_v_cutWorth
  subst t_v_cuts
  subst t_v_best
  subst t_v_cost
  subst t_v_fits
  subst t_v_mates
  subst t_n
  subst t_w0_
  subst t_w1_
  subst t_w2_
  exact tl_zlp3 (fun s2 s hs w0_ w1_ w2_ => t_pM_matched_b22_F (Eq.refl N) (Eq.refl (mI a1)) (Eq.refl (mI v_grain)) (Eq.refl (mI v_limit)) (Eq.refl (mI v_lost)) (Eq.refl (mA v_cutAt)) (Eq.refl (mA v_cutWorth)) (Eq.refl (mA v_cuts)) (Eq.refl (mA v_best)) (Eq.refl (mA v_cost)) (Eq.refl (mA v_fits)) (Eq.refl (mA v_mates)) t_k73 hs (Eq.refl (mI w0_)) (Eq.refl (mI w1_)) (Eq.refl (mI w2_))) n w0_ w1_ w2_
theorem t_pM_matched_b73 {N N_j : Nat} (t_N : N = N_j) {a1 : Int32} {a1_j : Int} (t_a1 : mI a1 = a1_j) {v_grain : Int32} {v_grain_j : Int} (t_v_grain : mI v_grain = v_grain_j) {v_limit : Int32} {v_limit_j : Int} (t_v_limit : mI v_limit = v_limit_j) {v_lost : Int32} {v_lost_j : Int} (t_v_lost : mI v_lost = v_lost_j) {v_cutAt : (Nat → Int32)} {v_cutAt_j : (Nat → Int)} (t_v_cutAt : mA v_cutAt = v_cutAt_j) {v_cutWorth : (Nat → Int32)} {v_cutWorth_j : (Nat → Int)} (t_v_cutWorth : mA v_cutWorth = v_cutWorth_j) {v_cuts : (Nat → Int32)} {v_cuts_j : (Nat → Int)} (t_v_cuts : mA v_cuts = v_cuts_j) {x2 : Int32} {x2_j : Int} (t_x2 : mI x2 = x2_j) {x3 : Int32} {x3_j : Int} (t_x3 : mI x3 = x3_j) {v_best : (Nat → Int32)} {v_best_j : (Nat → Int)} (t_v_best : mA v_best = v_best_j) {v_cost : (Nat → Int32)} {v_cost_j : (Nat → Int)} (t_v_cost : mA v_cost = v_cost_j) {v_fits : (Nat → Int32)} {v_fits_j : (Nat → Int)} (t_v_fits : mA v_fits = v_fits_j) {v_mates : (Nat → Int32)} {v_mates_j : (Nat → Int)} (t_v_mates : mA v_mates = v_mates_j) : tl (mP mI (mP mA (mP mA (mP mA mA)))) (iM_matched_b73 N_j a1_j v_grain_j v_limit_j v_lost_j v_cutAt_j v_cutWorth_j v_cuts_j x2_j x3_j v_best_j v_cost_j v_fits_j v_mates_j) (pM_matched_b73 N a1 v_grain v_limit v_lost v_cutAt v_cutWorth v_cuts x2 x3 v_best v_cost v_fits v_mates) := by
  subst t_N
  subst t_a1
  subst t_v_grain
  subst t_v_limit
  subst t_v_lost
  subst t_v_cutAt
  subst t_v_cutWorth
  subst t_v_cuts
  subst t_x2
  subst t_x3
  subst t_v_best
  subst t_v_cost
  subst t_v_fits
  subst t_v_mates
  unfold iM_matched_b73 pM_matched_b73
  refine tl_ite (jc_eq (Eq.refl (mI a1)) jlitI_0) ?_ ?_
  · exact (tl_some (jp2 (Eq.refl (mI x2)) (jp2 (Eq.refl (mA v_best)) (jp2 (Eq.refl (mA v_cost)) (jp2 (Eq.refl (mA v_fits)) (Eq.refl (mA v_mates)))))))
  · exact (tl_some (jp2 (Eq.refl (mI x3)) (jp2 (Eq.refl (mA v_best)) (jp2 (Eq.refl (mA v_cost)) (jp2 (Eq.refl (mA v_fits)) (Eq.refl (mA v_mates)))))))
theorem t_pM_matched_b11 {N N_j : Nat} (t_N : N = N_j) {a1 : Int32} {a1_j : Int} (t_a1 : mI a1 = a1_j) {v_grain : Int32} {v_grain_j : Int} (t_v_grain : mI v_grain = v_grain_j) {v_limit : Int32} {v_limit_j : Int} (t_v_limit : mI v_limit = v_limit_j) {v_lost : Int32} {v_lost_j : Int} (t_v_lost : mI v_lost = v_lost_j) {v_cutAt : (Nat → Int32)} {v_cutAt_j : (Nat → Int)} (t_v_cutAt : mA v_cutAt = v_cutAt_j) {v_cutWorth : (Nat → Int32)} {v_cutWorth_j : (Nat → Int)} (t_v_cutWorth : mA v_cutWorth = v_cutWorth_j) {v_cuts : (Nat → Int32)} {v_cuts_j : (Nat → Int)} (t_v_cuts : mA v_cuts = v_cuts_j) {v_best : (Nat → Int32)} {v_best_j : (Nat → Int)} (t_v_best : mA v_best = v_best_j) {v_cost : (Nat → Int32)} {v_cost_j : (Nat → Int)} (t_v_cost : mA v_cost = v_cost_j) {v_fits : (Nat → Int32)} {v_fits_j : (Nat → Int)} (t_v_fits : mA v_fits = v_fits_j) {v_mates : (Nat → Int32)} {v_mates_j : (Nat → Int)} (t_v_mates : mA v_mates = v_mates_j) : tl (mP mI (mP mA (mP mA (mP mA mA)))) (iM_matched_b11 N_j a1_j v_grain_j v_limit_j v_lost_j v_cutAt_j v_cutWorth_j v_cuts_j v_best_j v_cost_j v_fits_j v_mates_j) (pM_matched_b11 N a1 v_grain v_limit v_lost v_cutAt v_cutWorth v_cuts v_best v_cost v_fits v_mates) := by
  subst t_N
  subst t_a1
  subst t_v_grain
  subst t_v_limit
  subst t_v_lost
  subst t_v_cutAt
  subst t_v_cutWorth
  subst t_v_cuts
  subst t_v_best
  subst t_v_cost
  subst t_v_fits
  subst t_v_mates
  unfold iM_matched_b11 pM_matched_b11
  refine tl_bd4 (t_pM_matches (Eq.refl N) (Eq.refl (mI v_grain)) (Eq.refl (mI v_limit)) (Eq.refl (mI v_lost)) (Eq.refl (mA v_best)) (Eq.refl (mA v_cost)) (Eq.refl (mA v_cutAt)) (Eq.refl (mA v_cutWorth)) (Eq.refl (mA v_cuts)) (Eq.refl (mA v_fits)) (Eq.refl (mA v_mates))) (fun v_best_c1 v_cost_c1 v_fits_c1 v_mates_c1 => ?_)
  exact (t_pM_matched_b22 (Eq.refl N) (Eq.refl (mI a1)) (Eq.refl (mI v_grain)) (Eq.refl (mI v_limit)) (Eq.refl (mI v_lost)) (Eq.refl (mA v_cutAt)) (Eq.refl (mA v_cutWorth)) (Eq.refl (mA v_cuts)) (Eq.refl (mA v_best_c1)) (Eq.refl (mA v_cost_c1)) (Eq.refl (mA v_fits_c1)) (Eq.refl (mA v_mates_c1)) (fun x2_k1 x3_k2 => by exact (t_pM_matched_b73 (Eq.refl N) (Eq.refl (mI a1)) (Eq.refl (mI v_grain)) (Eq.refl (mI v_limit)) (Eq.refl (mI v_lost)) (Eq.refl (mA v_cutAt)) (Eq.refl (mA v_cutWorth)) (Eq.refl (mA v_cuts)) (Eq.refl (mI x2_k1)) (Eq.refl (mI x3_k2)) (Eq.refl (mA v_best_c1)) (Eq.refl (mA v_cost_c1)) (Eq.refl (mA v_fits_c1)) (Eq.refl (mA v_mates_c1)))) (Eq.refl N) jlitI_0 jlitI_0 jlitI_0)
theorem t_pM_matched {N N_j : Nat} (t_N : N = N_j) {a1 : Int32} {a1_j : Int} (t_a1 : mI a1 = a1_j) {v_grain : Int32} {v_grain_j : Int} (t_v_grain : mI v_grain = v_grain_j) {v_limit : Int32} {v_limit_j : Int} (t_v_limit : mI v_limit = v_limit_j) {v_lost : Int32} {v_lost_j : Int} (t_v_lost : mI v_lost = v_lost_j) {v_best : (Nat → Int32)} {v_best_j : (Nat → Int)} (t_v_best : mA v_best = v_best_j) {v_cost : (Nat → Int32)} {v_cost_j : (Nat → Int)} (t_v_cost : mA v_cost = v_cost_j) {v_cutAt : (Nat → Int32)} {v_cutAt_j : (Nat → Int)} (t_v_cutAt : mA v_cutAt = v_cutAt_j) {v_cutWorth : (Nat → Int32)} {v_cutWorth_j : (Nat → Int)} (t_v_cutWorth : mA v_cutWorth = v_cutWorth_j) {v_cuts : (Nat → Int32)} {v_cuts_j : (Nat → Int)} (t_v_cuts : mA v_cuts = v_cuts_j) {v_fits : (Nat → Int32)} {v_fits_j : (Nat → Int)} (t_v_fits : mA v_fits = v_fits_j) {v_mates : (Nat → Int32)} {v_mates_j : (Nat → Int)} (t_v_mates : mA v_mates = v_mates_j) : tl (mP mI (mP mA (mP mA (mP mA mA)))) (iM_matched N_j a1_j v_grain_j v_limit_j v_lost_j v_best_j v_cost_j v_cutAt_j v_cutWorth_j v_cuts_j v_fits_j v_mates_j) (pM_matched N a1 v_grain v_limit v_lost v_best v_cost v_cutAt v_cutWorth v_cuts v_fits v_mates) := by
  subst t_N
  subst t_a1
  subst t_v_grain
  subst t_v_limit
  subst t_v_lost
  subst t_v_best
  subst t_v_cost
  subst t_v_cutAt
  subst t_v_cutWorth
  subst t_v_cuts
  subst t_v_fits
  subst t_v_mates
  unfold iM_matched pM_matched
  refine tl_ite (jc_eq (Eq.refl (mI a1)) jlitI_0) ?_ ?_
  · exact (t_pM_matched_b11 (Eq.refl N) (Eq.refl (mI a1)) (Eq.refl (mI v_grain)) (Eq.refl (mI v_limit)) (Eq.refl (mI v_lost)) (Eq.refl (mA v_cutAt)) (Eq.refl (mA v_cutWorth)) (Eq.refl (mA v_cuts)) (Eq.refl (mA v_best)) (Eq.refl (mA v_cost)) (Eq.refl (mA v_fits)) (Eq.refl (mA v_mates)))
  · refine tl_ite (jc_eq (Eq.refl (mI a1)) jlitI_1) ?_ ?_
    · exact (t_pM_matched_b11 (Eq.refl N) (Eq.refl (mI a1)) (Eq.refl (mI v_grain)) (Eq.refl (mI v_limit)) (Eq.refl (mI v_lost)) (Eq.refl (mA v_cutAt)) (Eq.refl (mA v_cutWorth)) (Eq.refl (mA v_cuts)) (Eq.refl (mA v_best)) (Eq.refl (mA v_cost)) (Eq.refl (mA v_fits)) (Eq.refl (mA v_mates)))
    · exact (tl_some (jp2 jlitI_m1 (jp2 (Eq.refl (mA v_best)) (jp2 (Eq.refl (mA v_cost)) (jp2 (Eq.refl (mA v_fits)) (Eq.refl (mA v_mates)))))))
theorem t_pM_feed_b71 {N N_j : Nat} (t_N : N = N_j) {a1 : Int32} {a1_j : Int} (t_a1 : mI a1 = a1_j) {a2 : Int32} {a2_j : Int} (t_a2 : mI a2 = a2_j) {a3 : Int32} {a3_j : Int} (t_a3 : mI a3 = a3_j) {a4 : Int32} {a4_j : Int} (t_a4 : mI a4 = a4_j) {a5 : Int32} {a5_j : Int} (t_a5 : mI a5 = a5_j) {self : Int32 → Int32 → (Nat → Int32) → Option R_pM_feed} {self_j : Int → Int → (Nat → Int) → Option R_iM_feed} (t_self : ∀ (q0_ : Int32) (q1_ : Int32) (q2_ : (Nat → Int32)), tl (mP mI (mP mI mA)) (self_j (mI q0_) (mI q1_) (mA q2_)) (self q0_ q1_ q2_)) {x6 : Int32} {x6_j : Int} (t_x6 : mI x6 = x6_j) {s0 : Int32} {s0_j : Int} (t_s0 : mI s0 = s0_j) {v_taped : Int32} {v_taped_j : Int} (t_v_taped : mI v_taped = v_taped_j) {v_tape : (Nat → Int32)} {v_tape_j : (Nat → Int)} (t_v_tape : mA v_tape = v_tape_j) : tl (mP mI (mP mI mA)) (iM_feed_b71 N_j a1_j a2_j a3_j a4_j a5_j self_j x6_j s0_j v_taped_j v_tape_j) (pM_feed_b71 N a1 a2 a3 a4 a5 self x6 s0 v_taped v_tape) := by
  subst t_N
  subst t_a1
  subst t_a2
  subst t_a3
  subst t_a4
  subst t_a5
  subst t_x6
  subst t_s0
  subst t_v_taped
  subst t_v_tape
  unfold iM_feed_b71 pM_feed_b71
  refine tl_gd (jg_ib (Eq.refl (mI v_taped))) (fun _ => ?_)
  refine tl_g (fun h1 => ?_)
  refine tl_g (fun h2 => ?_)
  refine tl_g (fun h3 => ?_)
  refine tl_g (fun h4 => ?_)
  exact (tl_e3 (ja_add (Eq.refl (mI x6)) jlitI_1 h1) (ja_add (Eq.refl (mI v_taped)) jlitI_1 h2) (jupA (Eq.refl (mA v_tape)) (jx (Eq.refl (mI v_taped))) (ja_and (ja_shr (Eq.refl (mI s0)) (ja_mul jlitI_8 (ja_sub jlitI_3 (ja_rem (Eq.refl (mI x6)) jlitI_4) h3) h4)) jlitI_255)) (t_self _ _ _))
theorem t_pM_feed_b18_F {N N_j : Nat} (t_N : N = N_j) {a1 : Int32} {a1_j : Int} (t_a1 : mI a1 = a1_j) {a2 : Int32} {a2_j : Int} (t_a2 : mI a2 = a2_j) {a3 : Int32} {a3_j : Int} (t_a3 : mI a3 = a3_j) {a4 : Int32} {a4_j : Int} (t_a4 : mI a4 = a4_j) {a5 : Int32} {a5_j : Int} (t_a5 : mI a5 = a5_j) {self : Int32 → Int32 → (Nat → Int32) → Option R_pM_feed} {self_j : Int → Int → (Nat → Int) → Option R_iM_feed} (t_self : ∀ (q0_ : Int32) (q1_ : Int32) (q2_ : (Nat → Int32)), tl (mP mI (mP mI mA)) (self_j (mI q0_) (mI q1_) (mA q2_)) (self q0_ q1_ q2_)) {x6 : Int32} {x6_j : Int} (t_x6 : mI x6 = x6_j) {v_taped : Int32} {v_taped_j : Int} (t_v_taped : mI v_taped = v_taped_j) {v_tape : (Nat → Int32)} {v_tape_j : (Nat → Int)} (t_v_tape : mA v_tape = v_tape_j) : tl (mP mI (mP mI mA)) (iM_feed_b18_F N_j a1_j a2_j a3_j a4_j a5_j self_j x6_j v_taped_j v_tape_j) (pM_feed_b18_F N a1 a2 a3 a4 a5 self x6 v_taped v_tape) := by
  subst t_N
  subst t_a1
  subst t_a2
  subst t_a3
  subst t_a4
  subst t_a5
  subst t_x6
  subst t_v_taped
  subst t_v_tape
  unfold iM_feed_b18_F pM_feed_b18_F
  refine tl_ite (jc_le jlitI_20 (Eq.refl (mI x6))) ?_ ?_
  · exact (tl_some (jp2 (Eq.refl (mI v_taped)) (jp2 (Eq.refl (mI v_taped)) (Eq.refl (mA v_tape)))))
  · refine tl_ite (jc_le jlitI_4 (Eq.refl (mI x6))) ?_ ?_
    · refine tl_ite (jc_le jlitI_8 (Eq.refl (mI x6))) ?_ ?_
      · refine tl_ite (jc_le jlitI_12 (Eq.refl (mI x6))) ?_ ?_
        · refine tl_ite (jc_le jlitI_16 (Eq.refl (mI x6))) ?_ ?_
          · exact (t_pM_feed_b71 (Eq.refl N) (Eq.refl (mI a1)) (Eq.refl (mI a2)) (Eq.refl (mI a3)) (Eq.refl (mI a4)) (Eq.refl (mI a5)) t_self (Eq.refl (mI x6)) (Eq.refl (mI a5)) (Eq.refl (mI v_taped)) (Eq.refl (mA v_tape)))
          · exact (t_pM_feed_b71 (Eq.refl N) (Eq.refl (mI a1)) (Eq.refl (mI a2)) (Eq.refl (mI a3)) (Eq.refl (mI a4)) (Eq.refl (mI a5)) t_self (Eq.refl (mI x6)) (Eq.refl (mI a4)) (Eq.refl (mI v_taped)) (Eq.refl (mA v_tape)))
        · exact (t_pM_feed_b71 (Eq.refl N) (Eq.refl (mI a1)) (Eq.refl (mI a2)) (Eq.refl (mI a3)) (Eq.refl (mI a4)) (Eq.refl (mI a5)) t_self (Eq.refl (mI x6)) (Eq.refl (mI a3)) (Eq.refl (mI v_taped)) (Eq.refl (mA v_tape)))
      · exact (t_pM_feed_b71 (Eq.refl N) (Eq.refl (mI a1)) (Eq.refl (mI a2)) (Eq.refl (mI a3)) (Eq.refl (mI a4)) (Eq.refl (mI a5)) t_self (Eq.refl (mI x6)) (Eq.refl (mI a2)) (Eq.refl (mI v_taped)) (Eq.refl (mA v_tape)))
    · exact (t_pM_feed_b71 (Eq.refl N) (Eq.refl (mI a1)) (Eq.refl (mI a2)) (Eq.refl (mI a3)) (Eq.refl (mI a4)) (Eq.refl (mI a5)) t_self (Eq.refl (mI x6)) (Eq.refl (mI a1)) (Eq.refl (mI v_taped)) (Eq.refl (mA v_tape)))
theorem t_pM_feed_b18 {N N_j : Nat} (t_N : N = N_j) {a1 : Int32} {a1_j : Int} (t_a1 : mI a1 = a1_j) {a2 : Int32} {a2_j : Int} (t_a2 : mI a2 = a2_j) {a3 : Int32} {a3_j : Int} (t_a3 : mI a3 = a3_j) {a4 : Int32} {a4_j : Int} (t_a4 : mI a4 = a4_j) {a5 : Int32} {a5_j : Int} (t_a5 : mI a5 = a5_j) {n n_j : Nat} (t_n : n = n_j) {w0_ : Int32} {w0__j : Int} (t_w0_ : mI w0_ = w0__j) {w1_ : Int32} {w1__j : Int} (t_w1_ : mI w1_ = w1__j) {w2_ : (Nat → Int32)} {w2__j : (Nat → Int)} (t_w2_ : mA w2_ = w2__j) : tl (mP mI (mP mI mA)) (iM_feed_b18 N_j a1_j a2_j a3_j a4_j a5_j n_j w0__j w1__j w2__j) (pM_feed_b18 N a1 a2 a3 a4 a5 n w0_ w1_ w2_) := by
  subst t_N
  subst t_a1
  subst t_a2
  subst t_a3
  subst t_a4
  subst t_a5
  subst t_n
  subst t_w0_
  subst t_w1_
  subst t_w2_
  exact tl_zlp3 (fun s2 s hs w0_ w1_ w2_ => t_pM_feed_b18_F (Eq.refl N) (Eq.refl (mI a1)) (Eq.refl (mI a2)) (Eq.refl (mI a3)) (Eq.refl (mI a4)) (Eq.refl (mI a5)) hs (Eq.refl (mI w0_)) (Eq.refl (mI w1_)) (Eq.refl (mA w2_))) n w0_ w1_ w2_
theorem t_pM_feed {N N_j : Nat} (t_N : N = N_j) {a1 : Int32} {a1_j : Int} (t_a1 : mI a1 = a1_j) {a2 : Int32} {a2_j : Int} (t_a2 : mI a2 = a2_j) {a3 : Int32} {a3_j : Int} (t_a3 : mI a3 = a3_j) {a4 : Int32} {a4_j : Int} (t_a4 : mI a4 = a4_j) {a5 : Int32} {a5_j : Int} (t_a5 : mI a5 = a5_j) {v_taped : Int32} {v_taped_j : Int} (t_v_taped : mI v_taped = v_taped_j) {v_tape : (Nat → Int32)} {v_tape_j : (Nat → Int)} (t_v_tape : mA v_tape = v_tape_j) : tl (mP mI (mP mI mA)) (iM_feed N_j a1_j a2_j a3_j a4_j a5_j v_taped_j v_tape_j) (pM_feed N a1 a2 a3 a4 a5 v_taped v_tape) := by
  subst t_N
  subst t_a1
  subst t_a2
  subst t_a3
  subst t_a4
  subst t_a5
  subst t_v_taped
  subst t_v_tape
  unfold iM_feed pM_feed
  refine tl_g (fun h1 => ?_)
  refine tl_ite (jc_le (ja_add (Eq.refl (mI v_taped)) jlitI_20 h1) jlitI_600) ?_ ?_
  · exact (t_pM_feed_b18 (Eq.refl N) (Eq.refl (mI a1)) (Eq.refl (mI a2)) (Eq.refl (mI a3)) (Eq.refl (mI a4)) (Eq.refl (mI a5)) (Eq.refl N) jlitI_0 (Eq.refl (mI v_taped)) (Eq.refl (mA v_tape)))
  · exact (tl_some (jp2 jlitI_m1 (jp2 (Eq.refl (mI v_taped)) (Eq.refl (mA v_tape)))))
theorem t_pM_end {a1 : Int32} {a1_j : Int} (t_a1 : mI a1 = a1_j) {v_taped : Int32} {v_taped_j : Int} (t_v_taped : mI v_taped = v_taped_j) : tl (mP mI mI) (iM_end a1_j v_taped_j) (pM_end a1 v_taped) := by
  subst t_a1
  subst t_v_taped
  unfold iM_end pM_end
  refine tl_ite (jc_lt (Eq.refl (mI a1)) jlitI_0) ?_ ?_
  · exact (tl_some (jp2 jlitI_0 (Eq.refl (mI v_taped))))
  · refine tl_ite (jc_le (Eq.refl (mI a1)) (Eq.refl (mI v_taped))) ?_ ?_
    · exact (tl_some (jp2 jlitI_1 (Eq.refl (mI a1))))
    · exact (tl_some (jp2 jlitI_0 (Eq.refl (mI v_taped))))
theorem t_pM_fail {a1 : Int32} {a1_j : Int} (t_a1 : mI a1 = a1_j) {a2 : Int32} {a2_j : Int} (t_a2 : mI a2 = a2_j) {v_bad : Int32} {v_bad_j : Int} (t_v_bad : mI v_bad = v_bad_j) {v_badPlace : Int32} {v_badPlace_j : Int} (t_v_badPlace : mI v_badPlace = v_badPlace_j) : tl (mP mI mI) (iM_fail a1_j a2_j v_bad_j v_badPlace_j) (pM_fail a1 a2 v_bad v_badPlace) := by
  subst t_a1
  subst t_a2
  subst t_v_bad
  subst t_v_badPlace
  unfold iM_fail pM_fail
  refine tl_ite (jc_eq (Eq.refl (mI v_bad)) jlitI_0) ?_ ?_
  · exact (tl_some (jp2 (Eq.refl (mI a1)) (Eq.refl (mI a2))))
  · exact (tl_some (jp2 (Eq.refl (mI v_bad)) (Eq.refl (mI v_badPlace))))
theorem t_pM_isLetter {a0 : Int32} {a0_j : Int} (t_a0 : mI a0 = a0_j) : tl (mI) (iM_isLetter a0_j) (pM_isLetter a0) := by
  subst t_a0
  unfold iM_isLetter pM_isLetter
  refine tl_ite (jc_lt (Eq.refl (mI a0)) jlitI_97) ?_ ?_
  · exact (tl_some jlitI_0)
  · refine tl_ite (jc_lt jlitI_122 (Eq.refl (mI a0))) ?_ ?_
    · exact (tl_some jlitI_0)
    · exact (tl_some jlitI_1)
theorem t_pM_isDigit {a0 : Int32} {a0_j : Int} (t_a0 : mI a0 = a0_j) : tl (mI) (iM_isDigit a0_j) (pM_isDigit a0) := by
  subst t_a0
  unfold iM_isDigit pM_isDigit
  refine tl_ite (jc_lt (Eq.refl (mI a0)) jlitI_48) ?_ ?_
  · exact (tl_some jlitI_0)
  · refine tl_ite (jc_lt jlitI_57 (Eq.refl (mI a0))) ?_ ?_
    · exact (tl_some jlitI_0)
    · exact (tl_some jlitI_1)
theorem t_pM_look_b39 {N N_j : Nat} (t_N : N = N_j) {v_end : Int32} {v_end_j : Int} (t_v_end : mI v_end = v_end_j) {v_tape : (Nat → Int32)} {v_tape_j : (Nat → Int)} (t_v_tape : mA v_tape = v_tape_j) {self : Int32 → Option R_pM_look} {self_j : Int → Option R_iM_look} (t_self : ∀ (q0_ : Int32), tl (mP mI mI) (self_j (mI q0_)) (self q0_)) {k52 : Int32 → Option R_pM_look} {k52_j : Int → Option R_iM_look} (t_k52 : ∀ (q0_ : Int32), tl (mP mI mI) (k52_j (mI q0_)) (k52 q0_)) {v_at : Int32} {v_at_j : Int} (t_v_at : mI v_at = v_at_j) : tl (mP mI mI) (iM_look_b39 N_j v_end_j v_tape_j self_j k52_j v_at_j) (pM_look_b39 N v_end v_tape self k52 v_at) := by
  subst t_N
  subst t_v_end
  subst t_v_tape
  subst t_v_at
  unfold iM_look_b39 pM_look_b39
  refine tl_g (fun h1 => ?_)
  exact (tl_e1 (ja_add (Eq.refl (mI v_at)) jlitI_1 h1) (t_self _))
theorem t_pM_look_b0_F {N N_j : Nat} (t_N : N = N_j) {v_end : Int32} {v_end_j : Int} (t_v_end : mI v_end = v_end_j) {v_tape : (Nat → Int32)} {v_tape_j : (Nat → Int)} (t_v_tape : mA v_tape = v_tape_j) {k52 : Int32 → Option R_pM_look} {k52_j : Int → Option R_iM_look} (t_k52 : ∀ (q0_ : Int32), tl (mP mI mI) (k52_j (mI q0_)) (k52 q0_)) {self : Int32 → Option R_pM_look} {self_j : Int → Option R_iM_look} (t_self : ∀ (q0_ : Int32), tl (mP mI mI) (self_j (mI q0_)) (self q0_)) {v_at : Int32} {v_at_j : Int} (t_v_at : mI v_at = v_at_j) : tl (mP mI mI) (iM_look_b0_F N_j v_end_j v_tape_j k52_j self_j v_at_j) (pM_look_b0_F N v_end v_tape k52 self v_at) := by
  subst t_N
  subst t_v_end
  subst t_v_tape
  subst t_v_at
  unfold iM_look_b0_F pM_look_b0_F
  refine tl_ite (jc_le (Eq.refl (mI v_end)) (Eq.refl (mI v_at))) ?_ ?_
  · exact (tl_e1 (Eq.refl (mI v_at)) (t_k52 _))
  · refine tl_gd (jg_ib (Eq.refl (mI v_at))) (fun _ => ?_)
    refine tl_ite (jc_eq (jrd (Eq.refl (mA v_tape)) (jx (Eq.refl (mI v_at)))) jlitI_10) ?_ ?_
    · exact (t_pM_look_b39 (Eq.refl N) (Eq.refl (mI v_end)) (Eq.refl (mA v_tape)) t_self t_k52 (Eq.refl (mI v_at)))
    · refine tl_ite (jc_eq (jrd (Eq.refl (mA v_tape)) (jx (Eq.refl (mI v_at)))) jlitI_32) ?_ ?_
      · exact (t_pM_look_b39 (Eq.refl N) (Eq.refl (mI v_end)) (Eq.refl (mA v_tape)) t_self t_k52 (Eq.refl (mI v_at)))
      · exact (tl_e1 (Eq.refl (mI v_at)) (t_k52 _))
theorem t_pM_look_b0 {N N_j : Nat} (t_N : N = N_j) {v_end : Int32} {v_end_j : Int} (t_v_end : mI v_end = v_end_j) {v_tape : (Nat → Int32)} {v_tape_j : (Nat → Int)} (t_v_tape : mA v_tape = v_tape_j) {k52 : Int32 → Option R_pM_look} {k52_j : Int → Option R_iM_look} (t_k52 : ∀ (q0_ : Int32), tl (mP mI mI) (k52_j (mI q0_)) (k52 q0_)) {n n_j : Nat} (t_n : n = n_j) {w0_ : Int32} {w0__j : Int} (t_w0_ : mI w0_ = w0__j) : tl (mP mI mI) (iM_look_b0 N_j v_end_j v_tape_j k52_j n_j w0__j) (pM_look_b0 N v_end v_tape k52 n w0_) := by
  subst t_N
  subst t_v_end
  subst t_v_tape
  subst t_n
  subst t_w0_
  exact tl_zlp1 (fun s2 s hs w0_ => t_pM_look_b0_F (Eq.refl N) (Eq.refl (mI v_end)) (Eq.refl (mA v_tape)) t_k52 hs (Eq.refl (mI w0_))) n w0_
theorem t_pM_look_b52 {N N_j : Nat} (t_N : N = N_j) {v_end : Int32} {v_end_j : Int} (t_v_end : mI v_end = v_end_j) {v_tape : (Nat → Int32)} {v_tape_j : (Nat → Int)} (t_v_tape : mA v_tape = v_tape_j) {v_at : Int32} {v_at_j : Int} (t_v_at : mI v_at = v_at_j) : tl (mP mI mI) (iM_look_b52 N_j v_end_j v_tape_j v_at_j) (pM_look_b52 N v_end v_tape v_at) := by
  subst t_N
  subst t_v_end
  subst t_v_tape
  subst t_v_at
  unfold iM_look_b52 pM_look_b52
  refine tl_ite (jc_le (Eq.refl (mI v_end)) (Eq.refl (mI v_at))) ?_ ?_
  · exact (tl_some (jp2 jlitI_m1 (Eq.refl (mI v_at))))
  · refine tl_gd (jg_ib (Eq.refl (mI v_at))) (fun _ => ?_)
    exact (tl_some (jp2 (jrd (Eq.refl (mA v_tape)) (jx (Eq.refl (mI v_at)))) (Eq.refl (mI v_at))))
theorem t_pM_look {N N_j : Nat} (t_N : N = N_j) {v_at : Int32} {v_at_j : Int} (t_v_at : mI v_at = v_at_j) {v_end : Int32} {v_end_j : Int} (t_v_end : mI v_end = v_end_j) {v_tape : (Nat → Int32)} {v_tape_j : (Nat → Int)} (t_v_tape : mA v_tape = v_tape_j) : tl (mP mI mI) (iM_look N_j v_at_j v_end_j v_tape_j) (pM_look N v_at v_end v_tape) := by
  subst t_N
  subst t_v_at
  subst t_v_end
  subst t_v_tape
  unfold iM_look pM_look
  exact (t_pM_look_b0 (Eq.refl N) (Eq.refl (mI v_end)) (Eq.refl (mA v_tape)) (fun e3_ => by exact (t_pM_look_b52 (Eq.refl N) (Eq.refl (mI v_end)) (Eq.refl (mA v_tape)) (Eq.refl (mI e3_)))) (Eq.refl N) (Eq.refl (mI v_at)))
theorem t_pM_isHere_b35_F {N N_j : Nat} (t_N : N = N_j) {n_a1 n_a1_j : Nat} (t_n_a1 : n_a1 = n_a1_j) {v_a1 : (Nat → Int32)} {v_a1_j : (Nat → Int)} (t_v_a1 : mA v_a1 = v_a1_j) {v_bad : Int32} {v_bad_j : Int} (t_v_bad : mI v_bad = v_bad_j) {v_end : Int32} {v_end_j : Int} (t_v_end : mI v_end = v_end_j) {v_ended : Int32} {v_ended_j : Int} (t_v_ended : mI v_ended = v_ended_j) {v_tape : (Nat → Int32)} {v_tape_j : (Nat → Int)} (t_v_tape : mA v_tape = v_tape_j) {v_at : Int32} {v_at_j : Int} (t_v_at : mI v_at = v_at_j) {k61 : Int32 → Option R_pM_isHere} {k61_j : Int → Option R_iM_isHere} (t_k61 : ∀ (q0_ : Int32), tl (mP mI mI) (k61_j (mI q0_)) (k61 q0_)) {self : Int32 → Option R_pM_isHere} {self_j : Int → Option R_iM_isHere} (t_self : ∀ (q0_ : Int32), tl (mP mI mI) (self_j (mI q0_)) (self q0_)) {x2 : Int32} {x2_j : Int} (t_x2 : mI x2 = x2_j) : tl (mP mI mI) (iM_isHere_b35_F N_j n_a1_j v_a1_j v_bad_j v_end_j v_ended_j v_tape_j v_at_j k61_j self_j x2_j) (pM_isHere_b35_F N n_a1 v_a1 v_bad v_end v_ended v_tape v_at k61 self x2) := by
  subst t_N
  subst t_n_a1
  subst t_v_a1
  subst t_v_bad
  subst t_v_end
  subst t_v_ended
  subst t_v_tape
  subst t_v_at
  subst t_x2
  unfold iM_isHere_b35_F pM_isHere_b35_F
  refine tl_ite (jc_le (Eq.refl (mI v_end)) (Eq.refl (mI x2))) ?_ ?_
  · exact (tl_e1 (Eq.refl (mI x2)) (t_k61 _))
  · refine tl_gd (jg_ib (Eq.refl (mI x2))) (fun _ => ?_)
    refine tl_bd1 (t_pM_isLetter (jrd (Eq.refl (mA v_tape)) (jx (Eq.refl (mI x2))))) (fun rc4 => ?_)
    refine tl_ite (jc_eq (Eq.refl (mI rc4)) jlitI_0) ?_ ?_
    · exact (tl_e1 (Eq.refl (mI x2)) (t_k61 _))
    · refine tl_g (fun h1 => ?_)
      exact (tl_e1 (ja_add (Eq.refl (mI x2)) jlitI_1 h1) (t_self _))
theorem t_pM_isHere_b35 {N N_j : Nat} (t_N : N = N_j) {n_a1 n_a1_j : Nat} (t_n_a1 : n_a1 = n_a1_j) {v_a1 : (Nat → Int32)} {v_a1_j : (Nat → Int)} (t_v_a1 : mA v_a1 = v_a1_j) {v_bad : Int32} {v_bad_j : Int} (t_v_bad : mI v_bad = v_bad_j) {v_end : Int32} {v_end_j : Int} (t_v_end : mI v_end = v_end_j) {v_ended : Int32} {v_ended_j : Int} (t_v_ended : mI v_ended = v_ended_j) {v_tape : (Nat → Int32)} {v_tape_j : (Nat → Int)} (t_v_tape : mA v_tape = v_tape_j) {v_at : Int32} {v_at_j : Int} (t_v_at : mI v_at = v_at_j) {k61 : Int32 → Option R_pM_isHere} {k61_j : Int → Option R_iM_isHere} (t_k61 : ∀ (q0_ : Int32), tl (mP mI mI) (k61_j (mI q0_)) (k61 q0_)) {n n_j : Nat} (t_n : n = n_j) {w0_ : Int32} {w0__j : Int} (t_w0_ : mI w0_ = w0__j) : tl (mP mI mI) (iM_isHere_b35 N_j n_a1_j v_a1_j v_bad_j v_end_j v_ended_j v_tape_j v_at_j k61_j n_j w0__j) (pM_isHere_b35 N n_a1 v_a1 v_bad v_end v_ended v_tape v_at k61 n w0_) := by
  subst t_N
  subst t_n_a1
  subst t_v_a1
  subst t_v_bad
  subst t_v_end
  subst t_v_ended
  subst t_v_tape
  subst t_v_at
  subst t_n
  subst t_w0_
  exact tl_zlp1 (fun s2 s hs w0_ => t_pM_isHere_b35_F (Eq.refl N) (Eq.refl n_a1) (Eq.refl (mA v_a1)) (Eq.refl (mI v_bad)) (Eq.refl (mI v_end)) (Eq.refl (mI v_ended)) (Eq.refl (mA v_tape)) (Eq.refl (mI v_at)) t_k61 hs (Eq.refl (mI w0_))) n w0_
theorem t_pM_isHere_b76_F {N N_j : Nat} (t_N : N = N_j) {n_a1 n_a1_j : Nat} (t_n_a1 : n_a1 = n_a1_j) {v_a1 : (Nat → Int32)} {v_a1_j : (Nat → Int)} (t_v_a1 : mA v_a1 = v_a1_j) {v_bad : Int32} {v_bad_j : Int} (t_v_bad : mI v_bad = v_bad_j) {v_end : Int32} {v_end_j : Int} (t_v_end : mI v_end = v_end_j) {v_ended : Int32} {v_ended_j : Int} (t_v_ended : mI v_ended = v_ended_j) {v_tape : (Nat → Int32)} {v_tape_j : (Nat → Int)} (t_v_tape : mA v_tape = v_tape_j) {v_at : Int32} {v_at_j : Int} (t_v_at : mI v_at = v_at_j) {self : Int32 → Option R_pM_isHere} {self_j : Int → Option R_iM_isHere} (t_self : ∀ (q0_ : Int32), tl (mP mI mI) (self_j (mI q0_)) (self q0_)) {x3 : Int32} {x3_j : Int} (t_x3 : mI x3 = x3_j) : tl (mP mI mI) (iM_isHere_b76_F N_j n_a1_j v_a1_j v_bad_j v_end_j v_ended_j v_tape_j v_at_j self_j x3_j) (pM_isHere_b76_F N n_a1 v_a1 v_bad v_end v_ended v_tape v_at self x3) := by
  subst t_N
  subst t_n_a1
  subst t_v_a1
  subst t_v_bad
  subst t_v_end
  subst t_v_ended
  subst t_v_tape
  subst t_v_at
  subst t_x3
  unfold iM_isHere_b76_F pM_isHere_b76_F
  refine tl_g (fun h1 => ?_)
  refine tl_ite (jc_le (ja_of h1) (Eq.refl (mI x3))) ?_ ?_
  · exact (tl_some (jp2 jlitI_1 (Eq.refl (mI v_at))))
  · refine tl_g (fun h2 => ?_)
    refine tl_gd (jg_ib (ja_add (Eq.refl (mI v_at)) (Eq.refl (mI x3)) h2)) (fun _ => ?_)
    refine tl_gd (jg_ib (Eq.refl (mI x3))) (fun _ => ?_)
    refine tl_ite (jc_eq (jrd (Eq.refl (mA v_tape)) (jx (ja_add (Eq.refl (mI v_at)) (Eq.refl (mI x3)) h2))) (jrd (Eq.refl (mA v_a1)) (jx (Eq.refl (mI x3))))) ?_ ?_
    · refine tl_g (fun h3 => ?_)
      exact (tl_e1 (ja_add (Eq.refl (mI x3)) jlitI_1 h3) (t_self _))
    · exact (tl_some (jp2 jlitI_0 (Eq.refl (mI v_at))))
theorem t_pM_isHere_b76 {N N_j : Nat} (t_N : N = N_j) {n_a1 n_a1_j : Nat} (t_n_a1 : n_a1 = n_a1_j) {v_a1 : (Nat → Int32)} {v_a1_j : (Nat → Int)} (t_v_a1 : mA v_a1 = v_a1_j) {v_bad : Int32} {v_bad_j : Int} (t_v_bad : mI v_bad = v_bad_j) {v_end : Int32} {v_end_j : Int} (t_v_end : mI v_end = v_end_j) {v_ended : Int32} {v_ended_j : Int} (t_v_ended : mI v_ended = v_ended_j) {v_tape : (Nat → Int32)} {v_tape_j : (Nat → Int)} (t_v_tape : mA v_tape = v_tape_j) {v_at : Int32} {v_at_j : Int} (t_v_at : mI v_at = v_at_j) {n n_j : Nat} (t_n : n = n_j) {w0_ : Int32} {w0__j : Int} (t_w0_ : mI w0_ = w0__j) : tl (mP mI mI) (iM_isHere_b76 N_j n_a1_j v_a1_j v_bad_j v_end_j v_ended_j v_tape_j v_at_j n_j w0__j) (pM_isHere_b76 N n_a1 v_a1 v_bad v_end v_ended v_tape v_at n w0_) := by
  subst t_N
  subst t_n_a1
  subst t_v_a1
  subst t_v_bad
  subst t_v_end
  subst t_v_ended
  subst t_v_tape
  subst t_v_at
  subst t_n
  subst t_w0_
  exact tl_zlp1 (fun s2 s hs w0_ => t_pM_isHere_b76_F (Eq.refl N) (Eq.refl n_a1) (Eq.refl (mA v_a1)) (Eq.refl (mI v_bad)) (Eq.refl (mI v_end)) (Eq.refl (mI v_ended)) (Eq.refl (mA v_tape)) (Eq.refl (mI v_at)) hs (Eq.refl (mI w0_))) n w0_
theorem t_pM_isHere_b61 {N N_j : Nat} (t_N : N = N_j) {n_a1 n_a1_j : Nat} (t_n_a1 : n_a1 = n_a1_j) {v_a1 : (Nat → Int32)} {v_a1_j : (Nat → Int)} (t_v_a1 : mA v_a1 = v_a1_j) {v_bad : Int32} {v_bad_j : Int} (t_v_bad : mI v_bad = v_bad_j) {v_end : Int32} {v_end_j : Int} (t_v_end : mI v_end = v_end_j) {v_ended : Int32} {v_ended_j : Int} (t_v_ended : mI v_ended = v_ended_j) {v_tape : (Nat → Int32)} {v_tape_j : (Nat → Int)} (t_v_tape : mA v_tape = v_tape_j) {x2 : Int32} {x2_j : Int} (t_x2 : mI x2 = x2_j) {v_at : Int32} {v_at_j : Int} (t_v_at : mI v_at = v_at_j) : tl (mP mI mI) (iM_isHere_b61 N_j n_a1_j v_a1_j v_bad_j v_end_j v_ended_j v_tape_j x2_j v_at_j) (pM_isHere_b61 N n_a1 v_a1 v_bad v_end v_ended v_tape x2 v_at) := by
  subst t_N
  subst t_n_a1
  subst t_v_a1
  subst t_v_bad
  subst t_v_end
  subst t_v_ended
  subst t_v_tape
  subst t_x2
  subst t_v_at
  unfold iM_isHere_b61 pM_isHere_b61
  refine tl_g (fun h1 => ?_)
  refine tl_g (fun h2 => ?_)
  refine tl_ite (jc_eq (ja_sub (Eq.refl (mI x2)) (Eq.refl (mI v_at)) h1) (ja_of h2)) ?_ ?_
  · exact (t_pM_isHere_b76 (Eq.refl N) (Eq.refl n_a1) (Eq.refl (mA v_a1)) (Eq.refl (mI v_bad)) (Eq.refl (mI v_end)) (Eq.refl (mI v_ended)) (Eq.refl (mA v_tape)) (Eq.refl (mI v_at)) (Eq.refl N) jlitI_0)
  · exact (tl_some (jp2 jlitI_0 (Eq.refl (mI v_at))))
theorem t_pM_isHere {N N_j : Nat} (t_N : N = N_j) {n_a1 n_a1_j : Nat} (t_n_a1 : n_a1 = n_a1_j) {v_a1 : (Nat → Int32)} {v_a1_j : (Nat → Int)} (t_v_a1 : mA v_a1 = v_a1_j) {v_at : Int32} {v_at_j : Int} (t_v_at : mI v_at = v_at_j) {v_bad : Int32} {v_bad_j : Int} (t_v_bad : mI v_bad = v_bad_j) {v_end : Int32} {v_end_j : Int} (t_v_end : mI v_end = v_end_j) {v_ended : Int32} {v_ended_j : Int} (t_v_ended : mI v_ended = v_ended_j) {v_tape : (Nat → Int32)} {v_tape_j : (Nat → Int)} (t_v_tape : mA v_tape = v_tape_j) : tl (mP mI mI) (iM_isHere N_j n_a1_j v_a1_j v_at_j v_bad_j v_end_j v_ended_j v_tape_j) (pM_isHere N n_a1 v_a1 v_at v_bad v_end v_ended v_tape) := by
  subst t_N
  subst t_n_a1
  subst t_v_a1
  subst t_v_at
  subst t_v_bad
  subst t_v_end
  subst t_v_ended
  subst t_v_tape
  unfold iM_isHere pM_isHere
  refine tl_ite (jc_eq (Eq.refl (mI v_bad)) jlitI_0) ?_ ?_
  · refine tl_bd2 (t_pM_look (Eq.refl N) (Eq.refl (mI v_at)) (Eq.refl (mI v_end)) (Eq.refl (mA v_tape))) (fun rc1 v_at_c1 => ?_)
    refine tl_bd1 (t_pM_isLetter (Eq.refl (mI rc1))) (fun rc2 => ?_)
    refine tl_ite (jc_eq (Eq.refl (mI rc2)) jlitI_0) ?_ ?_
    · exact (tl_some (jp2 jlitI_0 (Eq.refl (mI v_at_c1))))
    · refine tl_ite (jc_eq (Eq.refl (mI v_at_c1)) (Eq.refl (mI v_ended))) ?_ ?_
      · exact (tl_some (jp2 jlitI_0 (Eq.refl (mI v_at_c1))))
      · exact (t_pM_isHere_b35 (Eq.refl N) (Eq.refl n_a1) (Eq.refl (mA v_a1)) (Eq.refl (mI v_bad)) (Eq.refl (mI v_end)) (Eq.refl (mI v_ended)) (Eq.refl (mA v_tape)) (Eq.refl (mI v_at_c1)) (fun x2_k1 => by exact (t_pM_isHere_b61 (Eq.refl N) (Eq.refl n_a1) (Eq.refl (mA v_a1)) (Eq.refl (mI v_bad)) (Eq.refl (mI v_end)) (Eq.refl (mI v_ended)) (Eq.refl (mA v_tape)) (Eq.refl (mI x2_k1)) (Eq.refl (mI v_at_c1)))) (Eq.refl N) (Eq.refl (mI v_at_c1)))
  · exact (tl_some (jp2 jlitI_0 (Eq.refl (mI v_at))))
theorem t_pM_takes {N N_j : Nat} (t_N : N = N_j) {n_a1 n_a1_j : Nat} (t_n_a1 : n_a1 = n_a1_j) {v_a1 : (Nat → Int32)} {v_a1_j : (Nat → Int)} (t_v_a1 : mA v_a1 = v_a1_j) {v_at : Int32} {v_at_j : Int} (t_v_at : mI v_at = v_at_j) {v_bad : Int32} {v_bad_j : Int} (t_v_bad : mI v_bad = v_bad_j) {v_end : Int32} {v_end_j : Int} (t_v_end : mI v_end = v_end_j) {v_ended : Int32} {v_ended_j : Int} (t_v_ended : mI v_ended = v_ended_j) {v_tape : (Nat → Int32)} {v_tape_j : (Nat → Int)} (t_v_tape : mA v_tape = v_tape_j) : tl (mP mI (mP mI mI)) (iM_takes N_j n_a1_j v_a1_j v_at_j v_bad_j v_end_j v_ended_j v_tape_j) (pM_takes N n_a1 v_a1 v_at v_bad v_end v_ended v_tape) := by
  subst t_N
  subst t_n_a1
  subst t_v_a1
  subst t_v_at
  subst t_v_bad
  subst t_v_end
  subst t_v_ended
  subst t_v_tape
  unfold iM_takes pM_takes
  refine tl_bd2 (t_pM_isHere (Eq.refl N) (Eq.refl n_a1) (Eq.refl (mA v_a1)) (Eq.refl (mI v_at)) (Eq.refl (mI v_bad)) (Eq.refl (mI v_end)) (Eq.refl (mI v_ended)) (Eq.refl (mA v_tape))) (fun rc1 v_at_c1 => ?_)
  refine tl_ite (jc_eq (Eq.refl (mI rc1)) jlitI_0) ?_ ?_
  · exact (tl_some (jp2 jlitI_0 (jp2 (Eq.refl (mI v_at_c1)) (Eq.refl (mI v_ended)))))
  · refine tl_g (fun h1 => ?_)
    refine tl_g (fun h2 => ?_)
    exact (tl_some (jp2 jlitI_1 (jp2 (ja_add (Eq.refl (mI v_at_c1)) (ja_of h1) h2) (ja_add (Eq.refl (mI v_at_c1)) (ja_of h1) h2))))
theorem t_pM_asks {N N_j : Nat} (t_N : N = N_j) {n_a1 n_a1_j : Nat} (t_n_a1 : n_a1 = n_a1_j) {v_a1 : (Nat → Int32)} {v_a1_j : (Nat → Int)} (t_v_a1 : mA v_a1 = v_a1_j) {v_at : Int32} {v_at_j : Int} (t_v_at : mI v_at = v_at_j) {v_bad : Int32} {v_bad_j : Int} (t_v_bad : mI v_bad = v_bad_j) {v_badPlace : Int32} {v_badPlace_j : Int} (t_v_badPlace : mI v_badPlace = v_badPlace_j) {v_end : Int32} {v_end_j : Int} (t_v_end : mI v_end = v_end_j) {v_ended : Int32} {v_ended_j : Int} (t_v_ended : mI v_ended = v_ended_j) {v_tape : (Nat → Int32)} {v_tape_j : (Nat → Int)} (t_v_tape : mA v_tape = v_tape_j) : tl (mP mI (mP mI (mP mI mI))) (iM_asks N_j n_a1_j v_a1_j v_at_j v_bad_j v_badPlace_j v_end_j v_ended_j v_tape_j) (pM_asks N n_a1 v_a1 v_at v_bad v_badPlace v_end v_ended v_tape) := by
  subst t_N
  subst t_n_a1
  subst t_v_a1
  subst t_v_at
  subst t_v_bad
  subst t_v_badPlace
  subst t_v_end
  subst t_v_ended
  subst t_v_tape
  unfold iM_asks pM_asks
  refine tl_ite (jc_eq (Eq.refl (mI v_bad)) jlitI_0) ?_ ?_
  · refine tl_bd3 (t_pM_takes (Eq.refl N) (Eq.refl n_a1) (Eq.refl (mA v_a1)) (Eq.refl (mI v_at)) (Eq.refl (mI v_bad)) (Eq.refl (mI v_end)) (Eq.refl (mI v_ended)) (Eq.refl (mA v_tape))) (fun rc1 v_at_c1 v_ended_c1 => ?_)
    refine tl_ite (jc_eq (Eq.refl (mI rc1)) jlitI_0) ?_ ?_
    · refine tl_bd2 (t_pM_fail jlitI_1 (Eq.refl (mI v_at_c1)) (Eq.refl (mI v_bad)) (Eq.refl (mI v_badPlace))) (fun v_bad_c2 v_badPlace_c2 => ?_)
      exact (tl_some (jp2 (Eq.refl (mI v_at_c1)) (jp2 (Eq.refl (mI v_bad_c2)) (jp2 (Eq.refl (mI v_badPlace_c2)) (Eq.refl (mI v_ended_c1))))))
    · exact (tl_some (jp2 (Eq.refl (mI v_at_c1)) (jp2 (Eq.refl (mI v_bad)) (jp2 (Eq.refl (mI v_badPlace)) (Eq.refl (mI v_ended_c1))))))
  · exact (tl_some (jp2 (Eq.refl (mI v_at)) (jp2 (Eq.refl (mI v_bad)) (jp2 (Eq.refl (mI v_badPlace)) (Eq.refl (mI v_ended))))))
theorem t_pM_takesSign {N N_j : Nat} (t_N : N = N_j) {a1 : Int32} {a1_j : Int} (t_a1 : mI a1 = a1_j) {v_at : Int32} {v_at_j : Int} (t_v_at : mI v_at = v_at_j) {v_bad : Int32} {v_bad_j : Int} (t_v_bad : mI v_bad = v_bad_j) {v_end : Int32} {v_end_j : Int} (t_v_end : mI v_end = v_end_j) {v_tape : (Nat → Int32)} {v_tape_j : (Nat → Int)} (t_v_tape : mA v_tape = v_tape_j) : tl (mP mI mI) (iM_takesSign N_j a1_j v_at_j v_bad_j v_end_j v_tape_j) (pM_takesSign N a1 v_at v_bad v_end v_tape) := by
  subst t_N
  subst t_a1
  subst t_v_at
  subst t_v_bad
  subst t_v_end
  subst t_v_tape
  unfold iM_takesSign pM_takesSign
  refine tl_ite (jc_eq (Eq.refl (mI v_bad)) jlitI_0) ?_ ?_
  · refine tl_bd2 (t_pM_look (Eq.refl N) (Eq.refl (mI v_at)) (Eq.refl (mI v_end)) (Eq.refl (mA v_tape))) (fun rc1 v_at_c1 => ?_)
    refine tl_ite (jc_eq (Eq.refl (mI rc1)) (Eq.refl (mI a1))) ?_ ?_
    · refine tl_g (fun h1 => ?_)
      exact (tl_some (jp2 jlitI_1 (ja_add (Eq.refl (mI v_at_c1)) jlitI_1 h1)))
    · exact (tl_some (jp2 jlitI_0 (Eq.refl (mI v_at_c1))))
  · exact (tl_some (jp2 jlitI_0 (Eq.refl (mI v_at))))
theorem t_pM_asksSign {N N_j : Nat} (t_N : N = N_j) {a1 : Int32} {a1_j : Int} (t_a1 : mI a1 = a1_j) {v_at : Int32} {v_at_j : Int} (t_v_at : mI v_at = v_at_j) {v_bad : Int32} {v_bad_j : Int} (t_v_bad : mI v_bad = v_bad_j) {v_badPlace : Int32} {v_badPlace_j : Int} (t_v_badPlace : mI v_badPlace = v_badPlace_j) {v_end : Int32} {v_end_j : Int} (t_v_end : mI v_end = v_end_j) {v_tape : (Nat → Int32)} {v_tape_j : (Nat → Int)} (t_v_tape : mA v_tape = v_tape_j) : tl (mP mI (mP mI mI)) (iM_asksSign N_j a1_j v_at_j v_bad_j v_badPlace_j v_end_j v_tape_j) (pM_asksSign N a1 v_at v_bad v_badPlace v_end v_tape) := by
  subst t_N
  subst t_a1
  subst t_v_at
  subst t_v_bad
  subst t_v_badPlace
  subst t_v_end
  subst t_v_tape
  unfold iM_asksSign pM_asksSign
  refine tl_ite (jc_eq (Eq.refl (mI v_bad)) jlitI_0) ?_ ?_
  · refine tl_bd2 (t_pM_takesSign (Eq.refl N) (Eq.refl (mI a1)) (Eq.refl (mI v_at)) (Eq.refl (mI v_bad)) (Eq.refl (mI v_end)) (Eq.refl (mA v_tape))) (fun rc1 v_at_c1 => ?_)
    refine tl_ite (jc_eq (Eq.refl (mI rc1)) jlitI_0) ?_ ?_
    · refine tl_bd2 (t_pM_fail jlitI_1 (Eq.refl (mI v_at_c1)) (Eq.refl (mI v_bad)) (Eq.refl (mI v_badPlace))) (fun v_bad_c2 v_badPlace_c2 => ?_)
      exact (tl_some (jp2 (Eq.refl (mI v_at_c1)) (jp2 (Eq.refl (mI v_bad_c2)) (Eq.refl (mI v_badPlace_c2)))))
    · exact (tl_some (jp2 (Eq.refl (mI v_at_c1)) (jp2 (Eq.refl (mI v_bad)) (Eq.refl (mI v_badPlace)))))
  · exact (tl_some (jp2 (Eq.refl (mI v_at)) (jp2 (Eq.refl (mI v_bad)) (Eq.refl (mI v_badPlace)))))
theorem t_pM_number_b30 {N N_j : Nat} (t_N : N = N_j) {a1 : Int32} {a1_j : Int} (t_a1 : mI a1 = a1_j) {a2 : Int32} {a2_j : Int} (t_a2 : mI a2 = a2_j) {v_end : Int32} {v_end_j : Int} (t_v_end : mI v_end = v_end_j) {v_tape : (Nat → Int32)} {v_tape_j : (Nat → Int)} (t_v_tape : mA v_tape = v_tape_j) {v_at : Int32} {v_at_j : Int} (t_v_at : mI v_at = v_at_j) {v_bad : Int32} {v_bad_j : Int} (t_v_bad : mI v_bad = v_bad_j) {v_badPlace : Int32} {v_badPlace_j : Int} (t_v_badPlace : mI v_badPlace = v_badPlace_j) {v_ended : Int32} {v_ended_j : Int} (t_v_ended : mI v_ended = v_ended_j) : tl (mP mI (mP mI (mP mI (mP mI mI)))) (iM_number_b30 N_j a1_j a2_j v_end_j v_tape_j v_at_j v_bad_j v_badPlace_j v_ended_j) (pM_number_b30 N a1 a2 v_end v_tape v_at v_bad v_badPlace v_ended) := by
  subst t_N
  subst t_a1
  subst t_a2
  subst t_v_end
  subst t_v_tape
  subst t_v_at
  subst t_v_bad
  subst t_v_badPlace
  subst t_v_ended
  unfold iM_number_b30 pM_number_b30
  refine tl_bd2 (t_pM_fail jlitI_1 (Eq.refl (mI v_at)) (Eq.refl (mI v_bad)) (Eq.refl (mI v_badPlace))) (fun v_bad_c3 v_badPlace_c3 => ?_)
  exact (tl_some (jp2 jlitI_0 (jp2 (Eq.refl (mI v_at)) (jp2 (Eq.refl (mI v_bad_c3)) (jp2 (Eq.refl (mI v_badPlace_c3)) (Eq.refl (mI v_ended)))))))
theorem t_pM_number_b49_F {N N_j : Nat} (t_N : N = N_j) {a1 : Int32} {a1_j : Int} (t_a1 : mI a1 = a1_j) {a2 : Int32} {a2_j : Int} (t_a2 : mI a2 = a2_j) {v_end : Int32} {v_end_j : Int} (t_v_end : mI v_end = v_end_j) {v_tape : (Nat → Int32)} {v_tape_j : (Nat → Int)} (t_v_tape : mA v_tape = v_tape_j) {x3 : Int32} {x3_j : Int} (t_x3 : mI x3 = x3_j) {v_bad : Int32} {v_bad_j : Int} (t_v_bad : mI v_bad = v_bad_j) {v_badPlace : Int32} {v_badPlace_j : Int} (t_v_badPlace : mI v_badPlace = v_badPlace_j) {v_ended : Int32} {v_ended_j : Int} (t_v_ended : mI v_ended = v_ended_j) {k85 : Int32 → Option R_pM_number} {k85_j : Int → Option R_iM_number} (t_k85 : ∀ (q0_ : Int32), tl (mP mI (mP mI (mP mI (mP mI mI)))) (k85_j (mI q0_)) (k85 q0_)) {k129 : Int32 → Int32 → Option R_pM_number} {k129_j : Int → Int → Option R_iM_number} (t_k129 : ∀ (q0_ : Int32) (q1_ : Int32), tl (mP mI (mP mI (mP mI (mP mI mI)))) (k129_j (mI q0_) (mI q1_)) (k129 q0_ q1_)) {self : Int32 → Int32 → Option R_pM_number} {self_j : Int → Int → Option R_iM_number} (t_self : ∀ (q0_ : Int32) (q1_ : Int32), tl (mP mI (mP mI (mP mI (mP mI mI)))) (self_j (mI q0_) (mI q1_)) (self q0_ q1_)) {x4 : Int32} {x4_j : Int} (t_x4 : mI x4 = x4_j) {v_at : Int32} {v_at_j : Int} (t_v_at : mI v_at = v_at_j) : tl (mP mI (mP mI (mP mI (mP mI mI)))) (iM_number_b49_F N_j a1_j a2_j v_end_j v_tape_j x3_j v_bad_j v_badPlace_j v_ended_j k85_j k129_j self_j x4_j v_at_j) (pM_number_b49_F N a1 a2 v_end v_tape x3 v_bad v_badPlace v_ended k85 k129 self x4 v_at) := by
  subst t_N
  subst t_a1
  subst t_a2
  subst t_v_end
  subst t_v_tape
  subst t_x3
  subst t_v_bad
  subst t_v_badPlace
  subst t_v_ended
  subst t_x4
  subst t_v_at
  unfold iM_number_b49_F pM_number_b49_F
  refine tl_ite (jc_le (Eq.refl (mI v_end)) (Eq.refl (mI v_at))) ?_ ?_
  · exact (tl_e2 (Eq.refl (mI x4)) (Eq.refl (mI v_at)) (t_k129 _ _))
  · refine tl_gd (jg_ib (Eq.refl (mI v_at))) (fun _ => ?_)
    refine tl_bd1 (t_pM_isDigit (jrd (Eq.refl (mA v_tape)) (jx (Eq.refl (mI v_at))))) (fun rc5 => ?_)
    refine tl_ite (jc_eq (Eq.refl (mI rc5)) jlitI_0) ?_ ?_
    · exact (tl_e2 (Eq.refl (mI x4)) (Eq.refl (mI v_at)) (t_k129 _ _))
    · refine tl_g (fun h1 => ?_)
      refine tl_ite (jc_eq (ja_sub (Eq.refl (mI v_at)) (Eq.refl (mI x3)) h1) jlitI_5) ?_ ?_
      · exact (tl_e1 (Eq.refl (mI v_at)) (t_k85 _))
      · refine tl_g (fun h2 => ?_)
        refine tl_g (fun h3 => ?_)
        refine tl_g (fun h4 => ?_)
        refine tl_g (fun h5 => ?_)
        exact (tl_e2 (ja_sub (ja_add (ja_mul jlitI_10 (Eq.refl (mI x4)) h2) (jrd (Eq.refl (mA v_tape)) (jx (Eq.refl (mI v_at)))) h3) jlitI_48 h4) (ja_add (Eq.refl (mI v_at)) jlitI_1 h5) (t_self _ _))
theorem t_pM_number_b49 {N N_j : Nat} (t_N : N = N_j) {a1 : Int32} {a1_j : Int} (t_a1 : mI a1 = a1_j) {a2 : Int32} {a2_j : Int} (t_a2 : mI a2 = a2_j) {v_end : Int32} {v_end_j : Int} (t_v_end : mI v_end = v_end_j) {v_tape : (Nat → Int32)} {v_tape_j : (Nat → Int)} (t_v_tape : mA v_tape = v_tape_j) {x3 : Int32} {x3_j : Int} (t_x3 : mI x3 = x3_j) {v_bad : Int32} {v_bad_j : Int} (t_v_bad : mI v_bad = v_bad_j) {v_badPlace : Int32} {v_badPlace_j : Int} (t_v_badPlace : mI v_badPlace = v_badPlace_j) {v_ended : Int32} {v_ended_j : Int} (t_v_ended : mI v_ended = v_ended_j) {k85 : Int32 → Option R_pM_number} {k85_j : Int → Option R_iM_number} (t_k85 : ∀ (q0_ : Int32), tl (mP mI (mP mI (mP mI (mP mI mI)))) (k85_j (mI q0_)) (k85 q0_)) {k129 : Int32 → Int32 → Option R_pM_number} {k129_j : Int → Int → Option R_iM_number} (t_k129 : ∀ (q0_ : Int32) (q1_ : Int32), tl (mP mI (mP mI (mP mI (mP mI mI)))) (k129_j (mI q0_) (mI q1_)) (k129 q0_ q1_)) {n n_j : Nat} (t_n : n = n_j) {w0_ : Int32} {w0__j : Int} (t_w0_ : mI w0_ = w0__j) {w1_ : Int32} {w1__j : Int} (t_w1_ : mI w1_ = w1__j) : tl (mP mI (mP mI (mP mI (mP mI mI)))) (iM_number_b49 N_j a1_j a2_j v_end_j v_tape_j x3_j v_bad_j v_badPlace_j v_ended_j k85_j k129_j n_j w0__j w1__j) (pM_number_b49 N a1 a2 v_end v_tape x3 v_bad v_badPlace v_ended k85 k129 n w0_ w1_) := by
  subst t_N
  subst t_a1
  subst t_a2
  subst t_v_end
  subst t_v_tape
  subst t_x3
  subst t_v_bad
  subst t_v_badPlace
  subst t_v_ended
  subst t_n
  subst t_w0_
  subst t_w1_
  exact tl_zlp2 (fun s2 s hs w0_ w1_ => t_pM_number_b49_F (Eq.refl N) (Eq.refl (mI a1)) (Eq.refl (mI a2)) (Eq.refl (mI v_end)) (Eq.refl (mA v_tape)) (Eq.refl (mI x3)) (Eq.refl (mI v_bad)) (Eq.refl (mI v_badPlace)) (Eq.refl (mI v_ended)) t_k85 t_k129 hs (Eq.refl (mI w0_)) (Eq.refl (mI w1_))) n w0_ w1_
theorem t_pM_number_b85 {N N_j : Nat} (t_N : N = N_j) {a1 : Int32} {a1_j : Int} (t_a1 : mI a1 = a1_j) {a2 : Int32} {a2_j : Int} (t_a2 : mI a2 = a2_j) {v_end : Int32} {v_end_j : Int} (t_v_end : mI v_end = v_end_j) {v_tape : (Nat → Int32)} {v_tape_j : (Nat → Int)} (t_v_tape : mA v_tape = v_tape_j) {v_at : Int32} {v_at_j : Int} (t_v_at : mI v_at = v_at_j) {v_bad : Int32} {v_bad_j : Int} (t_v_bad : mI v_bad = v_bad_j) {v_badPlace : Int32} {v_badPlace_j : Int} (t_v_badPlace : mI v_badPlace = v_badPlace_j) {v_ended : Int32} {v_ended_j : Int} (t_v_ended : mI v_ended = v_ended_j) : tl (mP mI (mP mI (mP mI (mP mI mI)))) (iM_number_b85 N_j a1_j a2_j v_end_j v_tape_j v_at_j v_bad_j v_badPlace_j v_ended_j) (pM_number_b85 N a1 a2 v_end v_tape v_at v_bad v_badPlace v_ended) := by
  subst t_N
  subst t_a1
  subst t_a2
  subst t_v_end
  subst t_v_tape
  subst t_v_at
  subst t_v_bad
  subst t_v_badPlace
  subst t_v_ended
  unfold iM_number_b85 pM_number_b85
  refine tl_bd2 (t_pM_fail jlitI_1 (Eq.refl (mI v_at)) (Eq.refl (mI v_bad)) (Eq.refl (mI v_badPlace))) (fun v_bad_c8 v_badPlace_c8 => ?_)
  exact (tl_some (jp2 jlitI_0 (jp2 (Eq.refl (mI v_at)) (jp2 (Eq.refl (mI v_bad_c8)) (jp2 (Eq.refl (mI v_badPlace_c8)) (Eq.refl (mI v_ended)))))))
theorem t_pM_number_b129 {N N_j : Nat} (t_N : N = N_j) {a1 : Int32} {a1_j : Int} (t_a1 : mI a1 = a1_j) {a2 : Int32} {a2_j : Int} (t_a2 : mI a2 = a2_j) {v_end : Int32} {v_end_j : Int} (t_v_end : mI v_end = v_end_j) {v_tape : (Nat → Int32)} {v_tape_j : (Nat → Int)} (t_v_tape : mA v_tape = v_tape_j) {x3 : Int32} {x3_j : Int} (t_x3 : mI x3 = x3_j) {x4 : Int32} {x4_j : Int} (t_x4 : mI x4 = x4_j) {v_at : Int32} {v_at_j : Int} (t_v_at : mI v_at = v_at_j) {v_bad : Int32} {v_bad_j : Int} (t_v_bad : mI v_bad = v_bad_j) {v_badPlace : Int32} {v_badPlace_j : Int} (t_v_badPlace : mI v_badPlace = v_badPlace_j) {v_ended : Int32} {v_ended_j : Int} (t_v_ended : mI v_ended = v_ended_j) : tl (mP mI (mP mI (mP mI (mP mI mI)))) (iM_number_b129 N_j a1_j a2_j v_end_j v_tape_j x3_j x4_j v_at_j v_bad_j v_badPlace_j v_ended_j) (pM_number_b129 N a1 a2 v_end v_tape x3 x4 v_at v_bad v_badPlace v_ended) := by
  subst t_N
  subst t_a1
  subst t_a2
  subst t_v_end
  subst t_v_tape
  subst t_x3
  subst t_x4
  subst t_v_at
  subst t_v_bad
  subst t_v_badPlace
  subst t_v_ended
  unfold iM_number_b129 pM_number_b129
  refine tl_bd1 (t_pM_isIn (ja_i2l (Eq.refl (mI x4))) (ja_i2l (Eq.refl (mI a1))) (ja_i2l (Eq.refl (mI a2)))) (fun rc6 => ?_)
  refine tl_ite (jc_eq (Eq.refl (mI rc6)) jlitI_0) ?_ ?_
  · refine tl_bd2 (t_pM_fail jlitI_2 (Eq.refl (mI x3)) (Eq.refl (mI v_bad)) (Eq.refl (mI v_badPlace))) (fun v_bad_c7 v_badPlace_c7 => ?_)
    exact (tl_some (jp2 (Eq.refl (mI x4)) (jp2 (Eq.refl (mI v_at)) (jp2 (Eq.refl (mI v_bad_c7)) (jp2 (Eq.refl (mI v_badPlace_c7)) (Eq.refl (mI v_at)))))))
  · exact (tl_some (jp2 (Eq.refl (mI x4)) (jp2 (Eq.refl (mI v_at)) (jp2 (Eq.refl (mI v_bad)) (jp2 (Eq.refl (mI v_badPlace)) (Eq.refl (mI v_at)))))))
theorem t_pM_number {N N_j : Nat} (t_N : N = N_j) {a1 : Int32} {a1_j : Int} (t_a1 : mI a1 = a1_j) {a2 : Int32} {a2_j : Int} (t_a2 : mI a2 = a2_j) {v_at : Int32} {v_at_j : Int} (t_v_at : mI v_at = v_at_j) {v_bad : Int32} {v_bad_j : Int} (t_v_bad : mI v_bad = v_bad_j) {v_badPlace : Int32} {v_badPlace_j : Int} (t_v_badPlace : mI v_badPlace = v_badPlace_j) {v_end : Int32} {v_end_j : Int} (t_v_end : mI v_end = v_end_j) {v_ended : Int32} {v_ended_j : Int} (t_v_ended : mI v_ended = v_ended_j) {v_tape : (Nat → Int32)} {v_tape_j : (Nat → Int)} (t_v_tape : mA v_tape = v_tape_j) : tl (mP mI (mP mI (mP mI (mP mI mI)))) (iM_number N_j a1_j a2_j v_at_j v_bad_j v_badPlace_j v_end_j v_ended_j v_tape_j) (pM_number N a1 a2 v_at v_bad v_badPlace v_end v_ended v_tape) := by
  subst t_N
  subst t_a1
  subst t_a2
  subst t_v_at
  subst t_v_bad
  subst t_v_badPlace
  subst t_v_end
  subst t_v_ended
  subst t_v_tape
  unfold iM_number pM_number
  refine tl_ite (jc_eq (Eq.refl (mI v_bad)) jlitI_0) ?_ ?_
  · refine tl_bd2 (t_pM_look (Eq.refl N) (Eq.refl (mI v_at)) (Eq.refl (mI v_end)) (Eq.refl (mA v_tape))) (fun rc1 v_at_c1 => ?_)
    refine tl_bd1 (t_pM_isDigit (Eq.refl (mI rc1))) (fun rc2 => ?_)
    refine tl_ite (jc_eq (Eq.refl (mI rc2)) jlitI_0) ?_ ?_
    · exact (t_pM_number_b30 (Eq.refl N) (Eq.refl (mI a1)) (Eq.refl (mI a2)) (Eq.refl (mI v_end)) (Eq.refl (mA v_tape)) (Eq.refl (mI v_at_c1)) (Eq.refl (mI v_bad)) (Eq.refl (mI v_badPlace)) (Eq.refl (mI v_ended)))
    · refine tl_ite (jc_eq (Eq.refl (mI v_at_c1)) (Eq.refl (mI v_ended))) ?_ ?_
      · exact (t_pM_number_b30 (Eq.refl N) (Eq.refl (mI a1)) (Eq.refl (mI a2)) (Eq.refl (mI v_end)) (Eq.refl (mA v_tape)) (Eq.refl (mI v_at_c1)) (Eq.refl (mI v_bad)) (Eq.refl (mI v_badPlace)) (Eq.refl (mI v_ended)))
      · exact (t_pM_number_b49 (Eq.refl N) (Eq.refl (mI a1)) (Eq.refl (mI a2)) (Eq.refl (mI v_end)) (Eq.refl (mA v_tape)) (Eq.refl (mI v_at_c1)) (Eq.refl (mI v_bad)) (Eq.refl (mI v_badPlace)) (Eq.refl (mI v_ended)) (fun v_at_k1 => by exact (t_pM_number_b85 (Eq.refl N) (Eq.refl (mI a1)) (Eq.refl (mI a2)) (Eq.refl (mI v_end)) (Eq.refl (mA v_tape)) (Eq.refl (mI v_at_k1)) (Eq.refl (mI v_bad)) (Eq.refl (mI v_badPlace)) (Eq.refl (mI v_ended)))) (fun x4_k2 v_at_k3 => by exact (t_pM_number_b129 (Eq.refl N) (Eq.refl (mI a1)) (Eq.refl (mI a2)) (Eq.refl (mI v_end)) (Eq.refl (mA v_tape)) (Eq.refl (mI v_at_c1)) (Eq.refl (mI x4_k2)) (Eq.refl (mI v_at_k3)) (Eq.refl (mI v_bad)) (Eq.refl (mI v_badPlace)) (Eq.refl (mI v_ended)))) (Eq.refl N) jlitI_0 (Eq.refl (mI v_at_c1)))
  · exact (tl_some (jp2 jlitI_0 (jp2 (Eq.refl (mI v_at)) (jp2 (Eq.refl (mI v_bad)) (jp2 (Eq.refl (mI v_badPlace)) (Eq.refl (mI v_ended)))))))
theorem t_pM_code {a1 : Int32} {a1_j : Int} (t_a1 : mI a1 = a1_j) {v_coded : Int32} {v_coded_j : Int} (t_v_coded : mI v_coded = v_coded_j) {v_codes : (Nat → Int32)} {v_codes_j : (Nat → Int)} (t_v_codes : mA v_codes = v_codes_j) : tl (mP mI mA) (iM_code a1_j v_coded_j v_codes_j) (pM_code a1 v_coded v_codes) := by
  subst t_a1
  subst t_v_coded
  subst t_v_codes
  unfold iM_code pM_code
  refine tl_g (fun h1 => ?_)
  refine tl_gd (jg_ib (ja_add jlitI_0 (Eq.refl (mI v_coded)) h1)) (fun _ => ?_)
  refine tl_g (fun h2 => ?_)
  exact (tl_some (jp2 (ja_add (Eq.refl (mI v_coded)) jlitI_1 h2) (jupA (Eq.refl (mA v_codes)) (jx (ja_add jlitI_0 (Eq.refl (mI v_coded)) h1)) (Eq.refl (mI a1)))))
theorem t_pM_opens {a1 : Int32} {a1_j : Int} (t_a1 : mI a1 = a1_j) {a2 : Int32} {a2_j : Int} (t_a2 : mI a2 = a2_j) {v_bad : Int32} {v_bad_j : Int} (t_v_bad : mI v_bad = v_bad_j) {v_badPlace : Int32} {v_badPlace_j : Int} (t_v_badPlace : mI v_badPlace = v_badPlace_j) {v_open : Int32} {v_open_j : Int} (t_v_open : mI v_open = v_open_j) {v_waits : Int32} {v_waits_j : Int} (t_v_waits : mI v_waits = v_waits_j) {v_wait : (Nat → Int32)} {v_wait_j : (Nat → Int)} (t_v_wait : mA v_wait = v_wait_j) : tl (mP mI (mP mI (mP mI (mP mI mA)))) (iM_opens a1_j a2_j v_bad_j v_badPlace_j v_open_j v_waits_j v_wait_j) (pM_opens a1 a2 v_bad v_badPlace v_open v_waits v_wait) := by
  subst t_a1
  subst t_a2
  subst t_v_bad
  subst t_v_badPlace
  subst t_v_open
  subst t_v_waits
  subst t_v_wait
  unfold iM_opens pM_opens
  refine tl_ite (jc_eq (Eq.refl (mI v_open)) jlitI_6) ?_ ?_
  · refine tl_bd2 (t_pM_fail jlitI_3 (Eq.refl (mI a2)) (Eq.refl (mI v_bad)) (Eq.refl (mI v_badPlace))) (fun v_bad_c2 v_badPlace_c2 => ?_)
    exact (tl_some (jp2 (Eq.refl (mI v_bad_c2)) (jp2 (Eq.refl (mI v_badPlace_c2)) (jp2 (Eq.refl (mI v_open)) (jp2 (Eq.refl (mI v_waits)) (Eq.refl (mA v_wait)))))))
  · refine tl_gd (jg_ib (Eq.refl (mI v_waits))) (fun _ => ?_)
    refine tl_g (fun h1 => ?_)
    refine tl_g (fun h2 => ?_)
    exact (tl_some (jp2 (Eq.refl (mI v_bad)) (jp2 (Eq.refl (mI v_badPlace)) (jp2 (ja_add (Eq.refl (mI v_open)) jlitI_1 h1) (jp2 (ja_add (Eq.refl (mI v_waits)) jlitI_1 h2) (jupA (Eq.refl (mA v_wait)) (jx (Eq.refl (mI v_waits))) (Eq.refl (mI a1))))))))
theorem t_pM_isOn {a1 : Int32} {a1_j : Int} (t_a1 : mI a1 = a1_j) {v_waits : Int32} {v_waits_j : Int} (t_v_waits : mI v_waits = v_waits_j) {v_wait : (Nat → Int32)} {v_wait_j : (Nat → Int)} (t_v_wait : mA v_wait = v_wait_j) : tl (mI) (iM_isOn a1_j v_waits_j v_wait_j) (pM_isOn a1 v_waits v_wait) := by
  subst t_a1
  subst t_v_waits
  subst t_v_wait
  unfold iM_isOn pM_isOn
  refine tl_ite (jc_le (Eq.refl (mI v_waits)) jlitI_0) ?_ ?_
  · exact (tl_some jlitI_0)
  · refine tl_g (fun h1 => ?_)
    refine tl_gd (jg_ib (ja_sub (Eq.refl (mI v_waits)) jlitI_1 h1)) (fun _ => ?_)
    refine tl_ite (jc_eq (jrd (Eq.refl (mA v_wait)) (jx (ja_sub (Eq.refl (mI v_waits)) jlitI_1 h1))) (Eq.refl (mI a1))) ?_ ?_
    · exact (tl_some jlitI_1)
    · exact (tl_some jlitI_0)
theorem t_pM_drops {v_coded : Int32} {v_coded_j : Int} (t_v_coded : mI v_coded = v_coded_j) {v_waits : Int32} {v_waits_j : Int} (t_v_waits : mI v_waits = v_waits_j) {v_codes : (Nat → Int32)} {v_codes_j : (Nat → Int)} (t_v_codes : mA v_codes = v_codes_j) {v_wait : (Nat → Int32)} {v_wait_j : (Nat → Int)} (t_v_wait : mA v_wait = v_wait_j) : tl (mP mI (mP mI mA)) (iM_drops v_coded_j v_waits_j v_codes_j v_wait_j) (pM_drops v_coded v_waits v_codes v_wait) := by
  subst t_v_coded
  subst t_v_waits
  subst t_v_codes
  subst t_v_wait
  unfold iM_drops pM_drops
  refine tl_g (fun h1 => ?_)
  refine tl_gd (jg_ib (ja_sub (Eq.refl (mI v_waits)) jlitI_1 h1)) (fun _ => ?_)
  refine tl_bd2 (t_pM_code (jrd (Eq.refl (mA v_wait)) (jx (ja_sub (Eq.refl (mI v_waits)) jlitI_1 h1))) (Eq.refl (mI v_coded)) (Eq.refl (mA v_codes))) (fun v_coded_c2 v_codes_c2 => ?_)
  exact (tl_some (jp2 (Eq.refl (mI v_coded_c2)) (jp2 (ja_sub (Eq.refl (mI v_waits)) jlitI_1 h1) (Eq.refl (mA v_codes_c2)))))
theorem t_pM_isMark {a1 : Int32} {a1_j : Int} (t_a1 : mI a1 = a1_j) : tl (mI) (iM_isMark a1_j) (pM_isMark a1) := by
  subst t_a1
  unfold iM_isMark pM_isMark
  refine tl_ite (jc_lt (Eq.refl (mI a1)) jlitI_20) ?_ ?_
  · exact (tl_some jlitI_0)
  · refine tl_ite (jc_lt jlitI_24 (Eq.refl (mI a1))) ?_ ?_
    · exact (tl_some jlitI_0)
    · exact (tl_some jlitI_1)
theorem t_pM_mark_b7_F {N N_j : Nat} (t_N : N = N_j) {v_base : Int32} {v_base_j : Int} (t_v_base : mI v_base = v_base_j) {v_waits : Int32} {v_waits_j : Int} (t_v_waits : mI v_waits = v_waits_j) {v_wait : (Nat → Int32)} {v_wait_j : (Nat → Int)} (t_v_wait : mA v_wait = v_wait_j) {k34 : Int32 → Option R_pM_mark} {k34_j : Int → Option Int} (t_k34 : ∀ (q0_ : Int32), tl (mI) (k34_j (mI q0_)) (k34 q0_)) {self : Int32 → Option R_pM_mark} {self_j : Int → Option Int} (t_self : ∀ (q0_ : Int32), tl (mI) (self_j (mI q0_)) (self q0_)) {x1 : Int32} {x1_j : Int} (t_x1 : mI x1 = x1_j) : tl (mI) (iM_mark_b7_F N_j v_base_j v_waits_j v_wait_j k34_j self_j x1_j) (pM_mark_b7_F N v_base v_waits v_wait k34 self x1) := by
  subst t_N
  subst t_v_base
  subst t_v_waits
  subst t_v_wait
  subst t_x1
  unfold iM_mark_b7_F pM_mark_b7_F
  refine tl_ite (jc_lt (Eq.refl (mI x1)) (Eq.refl (mI v_base))) ?_ ?_
  · exact (tl_e1 (Eq.refl (mI x1)) (t_k34 _))
  · refine tl_gd (jg_ib (Eq.refl (mI x1))) (fun _ => ?_)
    refine tl_bd1 (t_pM_isMark (jrd (Eq.refl (mA v_wait)) (jx (Eq.refl (mI x1))))) (fun rc2 => ?_)
    refine tl_ite (jc_eq (Eq.refl (mI rc2)) jlitI_0) ?_ ?_
    · refine tl_g (fun h1 => ?_)
      exact (tl_e1 (ja_add (Eq.refl (mI x1)) jlitI_m1 h1) (t_self _))
    · exact (tl_e1 (Eq.refl (mI x1)) (t_k34 _))
theorem t_pM_mark_b7 {N N_j : Nat} (t_N : N = N_j) {v_base : Int32} {v_base_j : Int} (t_v_base : mI v_base = v_base_j) {v_waits : Int32} {v_waits_j : Int} (t_v_waits : mI v_waits = v_waits_j) {v_wait : (Nat → Int32)} {v_wait_j : (Nat → Int)} (t_v_wait : mA v_wait = v_wait_j) {k34 : Int32 → Option R_pM_mark} {k34_j : Int → Option Int} (t_k34 : ∀ (q0_ : Int32), tl (mI) (k34_j (mI q0_)) (k34 q0_)) {n n_j : Nat} (t_n : n = n_j) {w0_ : Int32} {w0__j : Int} (t_w0_ : mI w0_ = w0__j) : tl (mI) (iM_mark_b7 N_j v_base_j v_waits_j v_wait_j k34_j n_j w0__j) (pM_mark_b7 N v_base v_waits v_wait k34 n w0_) := by
  subst t_N
  subst t_v_base
  subst t_v_waits
  subst t_v_wait
  subst t_n
  subst t_w0_
  exact tl_zlp1 (fun s2 s hs w0_ => t_pM_mark_b7_F (Eq.refl N) (Eq.refl (mI v_base)) (Eq.refl (mI v_waits)) (Eq.refl (mA v_wait)) t_k34 hs (Eq.refl (mI w0_))) n w0_
theorem t_pM_mark_b34 {N N_j : Nat} (t_N : N = N_j) {v_base : Int32} {v_base_j : Int} (t_v_base : mI v_base = v_base_j) {v_waits : Int32} {v_waits_j : Int} (t_v_waits : mI v_waits = v_waits_j) {v_wait : (Nat → Int32)} {v_wait_j : (Nat → Int)} (t_v_wait : mA v_wait = v_wait_j) {x1 : Int32} {x1_j : Int} (t_x1 : mI x1 = x1_j) : tl (mI) (iM_mark_b34 N_j v_base_j v_waits_j v_wait_j x1_j) (pM_mark_b34 N v_base v_waits v_wait x1) := by
  subst t_N
  subst t_v_base
  subst t_v_waits
  subst t_v_wait
  subst t_x1
  unfold iM_mark_b34 pM_mark_b34
  refine tl_ite (jc_lt (Eq.refl (mI x1)) (Eq.refl (mI v_base))) ?_ ?_
  · exact (tl_some jlitI_m1)
  · refine tl_gd (jg_ib (Eq.refl (mI x1))) (fun _ => ?_)
    exact (tl_some (jrd (Eq.refl (mA v_wait)) (jx (Eq.refl (mI x1)))))
theorem t_pM_mark {N N_j : Nat} (t_N : N = N_j) {v_base : Int32} {v_base_j : Int} (t_v_base : mI v_base = v_base_j) {v_waits : Int32} {v_waits_j : Int} (t_v_waits : mI v_waits = v_waits_j) {v_wait : (Nat → Int32)} {v_wait_j : (Nat → Int)} (t_v_wait : mA v_wait = v_wait_j) : tl (mI) (iM_mark N_j v_base_j v_waits_j v_wait_j) (pM_mark N v_base v_waits v_wait) := by
  subst t_N
  subst t_v_base
  subst t_v_waits
  subst t_v_wait
  unfold iM_mark pM_mark
  refine tl_g (fun h1 => ?_)
  exact (t_pM_mark_b7 (Eq.refl N) (Eq.refl (mI v_base)) (Eq.refl (mI v_waits)) (Eq.refl (mA v_wait)) (fun e4_ => by exact (t_pM_mark_b34 (Eq.refl N) (Eq.refl (mI v_base)) (Eq.refl (mI v_waits)) (Eq.refl (mA v_wait)) (Eq.refl (mI e4_)))) (Eq.refl N) (ja_sub (Eq.refl (mI v_waits)) jlitI_1 h1))
theorem t_pM_dropsToMark_b0_F {N N_j : Nat} (t_N : N = N_j) {v_base : Int32} {v_base_j : Int} (t_v_base : mI v_base = v_base_j) {v_wait : (Nat → Int32)} {v_wait_j : (Nat → Int)} (t_v_wait : mA v_wait = v_wait_j) {self : Int32 → Int32 → (Nat → Int32) → Option R_pM_dropsToMark} {self_j : Int → Int → (Nat → Int) → Option R_iM_dropsToMark} (t_self : ∀ (q0_ : Int32) (q1_ : Int32) (q2_ : (Nat → Int32)), tl (mP mI (mP mI mA)) (self_j (mI q0_) (mI q1_) (mA q2_)) (self q0_ q1_ q2_)) {v_coded : Int32} {v_coded_j : Int} (t_v_coded : mI v_coded = v_coded_j) {v_waits : Int32} {v_waits_j : Int} (t_v_waits : mI v_waits = v_waits_j) {v_codes : (Nat → Int32)} {v_codes_j : (Nat → Int)} (t_v_codes : mA v_codes = v_codes_j) : tl (mP mI (mP mI mA)) (iM_dropsToMark_b0_F N_j v_base_j v_wait_j self_j v_coded_j v_waits_j v_codes_j) (pM_dropsToMark_b0_F N v_base v_wait self v_coded v_waits v_codes) := by
  subst t_N
  subst t_v_base
  subst t_v_wait
  subst t_v_coded
  subst t_v_waits
  subst t_v_codes
  unfold iM_dropsToMark_b0_F pM_dropsToMark_b0_F
  refine tl_ite (jc_le (Eq.refl (mI v_waits)) (Eq.refl (mI v_base))) ?_ ?_
  · exact (tl_some (jp2 (Eq.refl (mI v_coded)) (jp2 (Eq.refl (mI v_waits)) (Eq.refl (mA v_codes)))))
  · refine tl_g (fun h1 => ?_)
    refine tl_gd (jg_ib (ja_sub (Eq.refl (mI v_waits)) jlitI_1 h1)) (fun _ => ?_)
    refine tl_bd1 (t_pM_isMark (jrd (Eq.refl (mA v_wait)) (jx (ja_sub (Eq.refl (mI v_waits)) jlitI_1 h1)))) (fun rc2 => ?_)
    refine tl_ite (jc_eq (Eq.refl (mI rc2)) jlitI_0) ?_ ?_
    · refine tl_bd3 (t_pM_drops (Eq.refl (mI v_coded)) (Eq.refl (mI v_waits)) (Eq.refl (mA v_codes)) (Eq.refl (mA v_wait))) (fun v_coded_c3 v_waits_c3 v_codes_c3 => ?_)
      exact (tl_e3 (Eq.refl (mI v_coded_c3)) (Eq.refl (mI v_waits_c3)) (Eq.refl (mA v_codes_c3)) (t_self _ _ _))
    · exact (tl_some (jp2 (Eq.refl (mI v_coded)) (jp2 (Eq.refl (mI v_waits)) (Eq.refl (mA v_codes)))))
theorem t_pM_dropsToMark_b0 {N N_j : Nat} (t_N : N = N_j) {v_base : Int32} {v_base_j : Int} (t_v_base : mI v_base = v_base_j) {v_wait : (Nat → Int32)} {v_wait_j : (Nat → Int)} (t_v_wait : mA v_wait = v_wait_j) {n n_j : Nat} (t_n : n = n_j) {w0_ : Int32} {w0__j : Int} (t_w0_ : mI w0_ = w0__j) {w1_ : Int32} {w1__j : Int} (t_w1_ : mI w1_ = w1__j) {w2_ : (Nat → Int32)} {w2__j : (Nat → Int)} (t_w2_ : mA w2_ = w2__j) : tl (mP mI (mP mI mA)) (iM_dropsToMark_b0 N_j v_base_j v_wait_j n_j w0__j w1__j w2__j) (pM_dropsToMark_b0 N v_base v_wait n w0_ w1_ w2_) := by
  subst t_N
  subst t_v_base
  subst t_v_wait
  subst t_n
  subst t_w0_
  subst t_w1_
  subst t_w2_
  exact tl_zlp3 (fun s2 s hs w0_ w1_ w2_ => t_pM_dropsToMark_b0_F (Eq.refl N) (Eq.refl (mI v_base)) (Eq.refl (mA v_wait)) hs (Eq.refl (mI w0_)) (Eq.refl (mI w1_)) (Eq.refl (mA w2_))) n w0_ w1_ w2_
theorem t_pM_dropsToMark {N N_j : Nat} (t_N : N = N_j) {v_base : Int32} {v_base_j : Int} (t_v_base : mI v_base = v_base_j) {v_coded : Int32} {v_coded_j : Int} (t_v_coded : mI v_coded = v_coded_j) {v_waits : Int32} {v_waits_j : Int} (t_v_waits : mI v_waits = v_waits_j) {v_codes : (Nat → Int32)} {v_codes_j : (Nat → Int)} (t_v_codes : mA v_codes = v_codes_j) {v_wait : (Nat → Int32)} {v_wait_j : (Nat → Int)} (t_v_wait : mA v_wait = v_wait_j) : tl (mP mI (mP mI mA)) (iM_dropsToMark N_j v_base_j v_coded_j v_waits_j v_codes_j v_wait_j) (pM_dropsToMark N v_base v_coded v_waits v_codes v_wait) := by
  subst t_N
  subst t_v_base
  subst t_v_coded
  subst t_v_waits
  subst t_v_codes
  subst t_v_wait
  unfold iM_dropsToMark pM_dropsToMark
  exact (t_pM_dropsToMark_b0 (Eq.refl N) (Eq.refl (mI v_base)) (Eq.refl (mA v_wait)) (Eq.refl N) (Eq.refl (mI v_coded)) (Eq.refl (mI v_waits)) (Eq.refl (mA v_codes)))
theorem t_pM_numberPart_b66 {N N_j : Nat} (t_N : N = N_j) {v_end : Int32} {v_end_j : Int} (t_v_end : mI v_end = v_end_j) {v_penceWord : (Nat → Int32)} {v_penceWord_j : (Nat → Int)} (t_v_penceWord : mA v_penceWord = v_penceWord_j) {v_poundsWord : (Nat → Int32)} {v_poundsWord_j : (Nat → Int)} (t_v_poundsWord : mA v_poundsWord = v_poundsWord_j) {v_shillingsWord : (Nat → Int32)} {v_shillingsWord_j : (Nat → Int)} (t_v_shillingsWord : mA v_shillingsWord = v_shillingsWord_j) {v_tape : (Nat → Int32)} {v_tape_j : (Nat → Int)} (t_v_tape : mA v_tape = v_tape_j) {x1 : Int32} {x1_j : Int} (t_x1 : mI x1 = x1_j) {s0 : Int32} {s0_j : Int} (t_s0 : mI s0 = s0_j) {v_at : Int32} {v_at_j : Int} (t_v_at : mI v_at = v_at_j) {v_bad : Int32} {v_bad_j : Int} (t_v_bad : mI v_bad = v_bad_j) {v_badPlace : Int32} {v_badPlace_j : Int} (t_v_badPlace : mI v_badPlace = v_badPlace_j) {v_coded : Int32} {v_coded_j : Int} (t_v_coded : mI v_coded = v_coded_j) {v_ended : Int32} {v_ended_j : Int} (t_v_ended : mI v_ended = v_ended_j) {v_codes : (Nat → Int32)} {v_codes_j : (Nat → Int)} (t_v_codes : mA v_codes = v_codes_j) : tl (mP mI (mP mI (mP mI (mP mI (mP mI mA))))) (iM_numberPart_b66 N_j v_end_j v_penceWord_j v_poundsWord_j v_shillingsWord_j v_tape_j x1_j s0_j v_at_j v_bad_j v_badPlace_j v_coded_j v_ended_j v_codes_j) (pM_numberPart_b66 N v_end v_penceWord v_poundsWord v_shillingsWord v_tape x1 s0 v_at v_bad v_badPlace v_coded v_ended v_codes) := by
  subst t_N
  subst t_v_end
  subst t_v_penceWord
  subst t_v_poundsWord
  subst t_v_shillingsWord
  subst t_v_tape
  subst t_x1
  subst t_s0
  subst t_v_at
  subst t_v_bad
  subst t_v_badPlace
  subst t_v_coded
  subst t_v_ended
  subst t_v_codes
  unfold iM_numberPart_b66 pM_numberPart_b66
  refine tl_g (fun h1 => ?_)
  refine tl_g (fun h2 => ?_)
  refine tl_bd2 (t_pM_code (ja_add jlitI_1000 (ja_mul (Eq.refl (mI x1)) (Eq.refl (mI s0)) h1) h2) (Eq.refl (mI v_coded)) (Eq.refl (mA v_codes))) (fun v_coded_c5 v_codes_c5 => ?_)
  exact (tl_some (jp2 (Eq.refl (mI v_at)) (jp2 (Eq.refl (mI v_bad)) (jp2 (Eq.refl (mI v_badPlace)) (jp2 (Eq.refl (mI v_coded_c5)) (jp2 (Eq.refl (mI v_ended)) (Eq.refl (mA v_codes_c5))))))))
theorem t_pM_numberPart {N N_j : Nat} (t_N : N = N_j) {v_at : Int32} {v_at_j : Int} (t_v_at : mI v_at = v_at_j) {v_bad : Int32} {v_bad_j : Int} (t_v_bad : mI v_bad = v_bad_j) {v_badPlace : Int32} {v_badPlace_j : Int} (t_v_badPlace : mI v_badPlace = v_badPlace_j) {v_coded : Int32} {v_coded_j : Int} (t_v_coded : mI v_coded = v_coded_j) {v_end : Int32} {v_end_j : Int} (t_v_end : mI v_end = v_end_j) {v_ended : Int32} {v_ended_j : Int} (t_v_ended : mI v_ended = v_ended_j) {v_codes : (Nat → Int32)} {v_codes_j : (Nat → Int)} (t_v_codes : mA v_codes = v_codes_j) {v_penceWord : (Nat → Int32)} {v_penceWord_j : (Nat → Int)} (t_v_penceWord : mA v_penceWord = v_penceWord_j) {v_poundsWord : (Nat → Int32)} {v_poundsWord_j : (Nat → Int)} (t_v_poundsWord : mA v_poundsWord = v_poundsWord_j) {v_shillingsWord : (Nat → Int32)} {v_shillingsWord_j : (Nat → Int)} (t_v_shillingsWord : mA v_shillingsWord = v_shillingsWord_j) {v_tape : (Nat → Int32)} {v_tape_j : (Nat → Int)} (t_v_tape : mA v_tape = v_tape_j) : tl (mP mI (mP mI (mP mI (mP mI (mP mI mA))))) (iM_numberPart N_j v_at_j v_bad_j v_badPlace_j v_coded_j v_end_j v_ended_j v_codes_j v_penceWord_j v_poundsWord_j v_shillingsWord_j v_tape_j) (pM_numberPart N v_at v_bad v_badPlace v_coded v_end v_ended v_codes v_penceWord v_poundsWord v_shillingsWord v_tape) := by
  subst t_N
  subst t_v_at
  subst t_v_bad
  subst t_v_badPlace
  subst t_v_coded
  subst t_v_end
  subst t_v_ended
  subst t_v_codes
  subst t_v_penceWord
  subst t_v_poundsWord
  subst t_v_shillingsWord
  subst t_v_tape
  unfold iM_numberPart pM_numberPart
  refine tl_bd5 (t_pM_number (Eq.refl N) jlitI_0 jlitI_99999 (Eq.refl (mI v_at)) (Eq.refl (mI v_bad)) (Eq.refl (mI v_badPlace)) (Eq.refl (mI v_end)) (Eq.refl (mI v_ended)) (Eq.refl (mA v_tape))) (fun rc1 v_at_c1 v_bad_c1 v_badPlace_c1 v_ended_c1 => ?_)
  refine tl_ite (jc_eq (Eq.refl (mI v_bad_c1)) jlitI_0) ?_ ?_
  · refine tl_bd3 (t_pM_takes (Eq.refl N) (Eq.refl _) (Eq.refl (mA v_penceWord)) (Eq.refl (mI v_at_c1)) (Eq.refl (mI v_bad_c1)) (Eq.refl (mI v_end)) (Eq.refl (mI v_ended_c1)) (Eq.refl (mA v_tape))) (fun rc2 v_at_c2 v_ended_c2 => ?_)
    refine tl_ite (jc_eq (Eq.refl (mI rc2)) jlitI_0) ?_ ?_
    · refine tl_bd3 (t_pM_takes (Eq.refl N) (Eq.refl _) (Eq.refl (mA v_shillingsWord)) (Eq.refl (mI v_at_c2)) (Eq.refl (mI v_bad_c1)) (Eq.refl (mI v_end)) (Eq.refl (mI v_ended_c2)) (Eq.refl (mA v_tape))) (fun rc3 v_at_c3 v_ended_c3 => ?_)
      refine tl_ite (jc_eq (Eq.refl (mI rc3)) jlitI_0) ?_ ?_
      · refine tl_bd3 (t_pM_takes (Eq.refl N) (Eq.refl _) (Eq.refl (mA v_poundsWord)) (Eq.refl (mI v_at_c3)) (Eq.refl (mI v_bad_c1)) (Eq.refl (mI v_end)) (Eq.refl (mI v_ended_c3)) (Eq.refl (mA v_tape))) (fun rc4 v_at_c4 v_ended_c4 => ?_)
        refine tl_ite (jc_eq (Eq.refl (mI rc4)) jlitI_0) ?_ ?_
        · exact (t_pM_numberPart_b66 (Eq.refl N) (Eq.refl (mI v_end)) (Eq.refl (mA v_penceWord)) (Eq.refl (mA v_poundsWord)) (Eq.refl (mA v_shillingsWord)) (Eq.refl (mA v_tape)) (Eq.refl (mI rc1)) jlitI_1 (Eq.refl (mI v_at_c4)) (Eq.refl (mI v_bad_c1)) (Eq.refl (mI v_badPlace_c1)) (Eq.refl (mI v_coded)) (Eq.refl (mI v_ended_c4)) (Eq.refl (mA v_codes)))
        · exact (t_pM_numberPart_b66 (Eq.refl N) (Eq.refl (mI v_end)) (Eq.refl (mA v_penceWord)) (Eq.refl (mA v_poundsWord)) (Eq.refl (mA v_shillingsWord)) (Eq.refl (mA v_tape)) (Eq.refl (mI rc1)) jlitI_240 (Eq.refl (mI v_at_c4)) (Eq.refl (mI v_bad_c1)) (Eq.refl (mI v_badPlace_c1)) (Eq.refl (mI v_coded)) (Eq.refl (mI v_ended_c4)) (Eq.refl (mA v_codes)))
      · exact (t_pM_numberPart_b66 (Eq.refl N) (Eq.refl (mI v_end)) (Eq.refl (mA v_penceWord)) (Eq.refl (mA v_poundsWord)) (Eq.refl (mA v_shillingsWord)) (Eq.refl (mA v_tape)) (Eq.refl (mI rc1)) jlitI_12 (Eq.refl (mI v_at_c3)) (Eq.refl (mI v_bad_c1)) (Eq.refl (mI v_badPlace_c1)) (Eq.refl (mI v_coded)) (Eq.refl (mI v_ended_c3)) (Eq.refl (mA v_codes)))
    · exact (t_pM_numberPart_b66 (Eq.refl N) (Eq.refl (mI v_end)) (Eq.refl (mA v_penceWord)) (Eq.refl (mA v_poundsWord)) (Eq.refl (mA v_shillingsWord)) (Eq.refl (mA v_tape)) (Eq.refl (mI rc1)) jlitI_1 (Eq.refl (mI v_at_c2)) (Eq.refl (mI v_bad_c1)) (Eq.refl (mI v_badPlace_c1)) (Eq.refl (mI v_coded)) (Eq.refl (mI v_ended_c2)) (Eq.refl (mA v_codes)))
  · exact (tl_some (jp2 (Eq.refl (mI v_at_c1)) (jp2 (Eq.refl (mI v_bad_c1)) (jp2 (Eq.refl (mI v_badPlace_c1)) (jp2 (Eq.refl (mI v_coded)) (jp2 (Eq.refl (mI v_ended_c1)) (Eq.refl (mA v_codes))))))))
theorem t_pM_part_b132 {N N_j : Nat} (t_N : N = N_j) {v_end : Int32} {v_end_j : Int} (t_v_end : mI v_end = v_end_j) {v_debtWord : (Nat → Int32)} {v_debtWord_j : (Nat → Int)} (t_v_debtWord : mA v_debtWord = v_debtWord_j) {v_maxWord : (Nat → Int32)} {v_maxWord_j : (Nat → Int)} (t_v_maxWord : mA v_maxWord = v_maxWord_j) {v_minWord : (Nat → Int32)} {v_minWord_j : (Nat → Int)} (t_v_minWord : mA v_minWord = v_minWord_j) {v_paidWord : (Nat → Int32)} {v_paidWord_j : (Nat → Int)} (t_v_paidWord : mA v_paidWord = v_paidWord_j) {v_penceWord : (Nat → Int32)} {v_penceWord_j : (Nat → Int)} (t_v_penceWord : mA v_penceWord = v_penceWord_j) {v_poundsWord : (Nat → Int32)} {v_poundsWord_j : (Nat → Int)} (t_v_poundsWord : mA v_poundsWord = v_poundsWord_j) {v_shillingsWord : (Nat → Int32)} {v_shillingsWord_j : (Nat → Int)} (t_v_shillingsWord : mA v_shillingsWord = v_shillingsWord_j) {v_tape : (Nat → Int32)} {v_tape_j : (Nat → Int)} (t_v_tape : mA v_tape = v_tape_j) {v_termWord : (Nat → Int32)} {v_termWord_j : (Nat → Int)} (t_v_termWord : mA v_termWord = v_termWord_j) {v_yearWord : (Nat → Int32)} {v_yearWord_j : (Nat → Int)} (t_v_yearWord : mA v_yearWord = v_yearWord_j) {self : Int32 → Int32 → Int32 → Int32 → Int32 → Int32 → Int32 → (Nat → Int32) → Option R_pM_part} {self_j : Int → Int → Int → Int → Int → Int → Int → (Nat → Int) → Option R_iM_part} (t_self : ∀ (q0_ : Int32) (q1_ : Int32) (q2_ : Int32) (q3_ : Int32) (q4_ : Int32) (q5_ : Int32) (q6_ : Int32) (q7_ : (Nat → Int32)), tl (mP mI (mP mI (mP mI (mP mI (mP mI (mP mI (mP mI (mP mA mA)))))))) (self_j (mI q0_) (mI q1_) (mI q2_) (mI q3_) (mI q4_) (mI q5_) (mI q6_) (mA q7_)) (self q0_ q1_ q2_ q3_ q4_ q5_ q6_ q7_)) {k146 : Int32 → Int32 → Int32 → Int32 → Int32 → Int32 → (Nat → Int32) → Option R_pM_part} {k146_j : Int → Int → Int → Int → Int → Int → (Nat → Int) → Option R_iM_part} (t_k146 : ∀ (q0_ : Int32) (q1_ : Int32) (q2_ : Int32) (q3_ : Int32) (q4_ : Int32) (q5_ : Int32) (q6_ : (Nat → Int32)), tl (mP mI (mP mI (mP mI (mP mI (mP mI (mP mI (mP mI (mP mA mA)))))))) (k146_j (mI q0_) (mI q1_) (mI q2_) (mI q3_) (mI q4_) (mI q5_) (mA q6_)) (k146 q0_ q1_ q2_ q3_ q4_ q5_ q6_)) {x1 : Int32} {x1_j : Int} (t_x1 : mI x1 = x1_j) {v_at : Int32} {v_at_j : Int} (t_v_at : mI v_at = v_at_j) {v_bad : Int32} {v_bad_j : Int} (t_v_bad : mI v_bad = v_bad_j) {v_badPlace : Int32} {v_badPlace_j : Int} (t_v_badPlace : mI v_badPlace = v_badPlace_j) {v_coded : Int32} {v_coded_j : Int} (t_v_coded : mI v_coded = v_coded_j) {v_ended : Int32} {v_ended_j : Int} (t_v_ended : mI v_ended = v_ended_j) {v_open : Int32} {v_open_j : Int} (t_v_open : mI v_open = v_open_j) {v_waits : Int32} {v_waits_j : Int} (t_v_waits : mI v_waits = v_waits_j) {v_codes : (Nat → Int32)} {v_codes_j : (Nat → Int)} (t_v_codes : mA v_codes = v_codes_j) {v_wait : (Nat → Int32)} {v_wait_j : (Nat → Int)} (t_v_wait : mA v_wait = v_wait_j) : tl (mP mI (mP mI (mP mI (mP mI (mP mI (mP mI (mP mI (mP mA mA)))))))) (iM_part_b132 N_j v_end_j v_debtWord_j v_maxWord_j v_minWord_j v_paidWord_j v_penceWord_j v_poundsWord_j v_shillingsWord_j v_tape_j v_termWord_j v_yearWord_j self_j k146_j x1_j v_at_j v_bad_j v_badPlace_j v_coded_j v_ended_j v_open_j v_waits_j v_codes_j v_wait_j) (pM_part_b132 N v_end v_debtWord v_maxWord v_minWord v_paidWord v_penceWord v_poundsWord v_shillingsWord v_tape v_termWord v_yearWord self k146 x1 v_at v_bad v_badPlace v_coded v_ended v_open v_waits v_codes v_wait) := by
  subst t_N
  subst t_v_end
  subst t_v_debtWord
  subst t_v_maxWord
  subst t_v_minWord
  subst t_v_paidWord
  subst t_v_penceWord
  subst t_v_poundsWord
  subst t_v_shillingsWord
  subst t_v_tape
  subst t_v_termWord
  subst t_v_yearWord
  subst t_x1
  subst t_v_at
  subst t_v_bad
  subst t_v_badPlace
  subst t_v_coded
  subst t_v_ended
  subst t_v_open
  subst t_v_waits
  subst t_v_codes
  subst t_v_wait
  unfold iM_part_b132 pM_part_b132
  refine tl_bd3 (t_pM_asksSign (Eq.refl N) jlitI_40 (Eq.refl (mI v_at)) (Eq.refl (mI v_bad)) (Eq.refl (mI v_badPlace)) (Eq.refl (mI v_end)) (Eq.refl (mA v_tape))) (fun v_at_c17 v_bad_c17 v_badPlace_c17 => ?_)
  exact (tl_e8 (Eq.refl (mI x1)) (Eq.refl (mI v_at_c17)) (Eq.refl (mI v_bad_c17)) (Eq.refl (mI v_badPlace_c17)) (Eq.refl (mI v_ended)) (Eq.refl (mI v_open)) (Eq.refl (mI v_waits)) (Eq.refl (mA v_wait)) (t_self _ _ _ _ _ _ _ _))
theorem t_pM_part_b127 {N N_j : Nat} (t_N : N = N_j) {v_end : Int32} {v_end_j : Int} (t_v_end : mI v_end = v_end_j) {v_debtWord : (Nat → Int32)} {v_debtWord_j : (Nat → Int)} (t_v_debtWord : mA v_debtWord = v_debtWord_j) {v_maxWord : (Nat → Int32)} {v_maxWord_j : (Nat → Int)} (t_v_maxWord : mA v_maxWord = v_maxWord_j) {v_minWord : (Nat → Int32)} {v_minWord_j : (Nat → Int)} (t_v_minWord : mA v_minWord = v_minWord_j) {v_paidWord : (Nat → Int32)} {v_paidWord_j : (Nat → Int)} (t_v_paidWord : mA v_paidWord = v_paidWord_j) {v_penceWord : (Nat → Int32)} {v_penceWord_j : (Nat → Int)} (t_v_penceWord : mA v_penceWord = v_penceWord_j) {v_poundsWord : (Nat → Int32)} {v_poundsWord_j : (Nat → Int)} (t_v_poundsWord : mA v_poundsWord = v_poundsWord_j) {v_shillingsWord : (Nat → Int32)} {v_shillingsWord_j : (Nat → Int)} (t_v_shillingsWord : mA v_shillingsWord = v_shillingsWord_j) {v_tape : (Nat → Int32)} {v_tape_j : (Nat → Int)} (t_v_tape : mA v_tape = v_tape_j) {v_termWord : (Nat → Int32)} {v_termWord_j : (Nat → Int)} (t_v_termWord : mA v_termWord = v_termWord_j) {v_yearWord : (Nat → Int32)} {v_yearWord_j : (Nat → Int)} (t_v_yearWord : mA v_yearWord = v_yearWord_j) {self : Int32 → Int32 → Int32 → Int32 → Int32 → Int32 → Int32 → (Nat → Int32) → Option R_pM_part} {self_j : Int → Int → Int → Int → Int → Int → Int → (Nat → Int) → Option R_iM_part} (t_self : ∀ (q0_ : Int32) (q1_ : Int32) (q2_ : Int32) (q3_ : Int32) (q4_ : Int32) (q5_ : Int32) (q6_ : Int32) (q7_ : (Nat → Int32)), tl (mP mI (mP mI (mP mI (mP mI (mP mI (mP mI (mP mI (mP mA mA)))))))) (self_j (mI q0_) (mI q1_) (mI q2_) (mI q3_) (mI q4_) (mI q5_) (mI q6_) (mA q7_)) (self q0_ q1_ q2_ q3_ q4_ q5_ q6_ q7_)) {k146 : Int32 → Int32 → Int32 → Int32 → Int32 → Int32 → (Nat → Int32) → Option R_pM_part} {k146_j : Int → Int → Int → Int → Int → Int → (Nat → Int) → Option R_iM_part} (t_k146 : ∀ (q0_ : Int32) (q1_ : Int32) (q2_ : Int32) (q3_ : Int32) (q4_ : Int32) (q5_ : Int32) (q6_ : (Nat → Int32)), tl (mP mI (mP mI (mP mI (mP mI (mP mI (mP mI (mP mI (mP mA mA)))))))) (k146_j (mI q0_) (mI q1_) (mI q2_) (mI q3_) (mI q4_) (mI q5_) (mA q6_)) (k146 q0_ q1_ q2_ q3_ q4_ q5_ q6_)) {x1 : Int32} {x1_j : Int} (t_x1 : mI x1 = x1_j) {x4 : Int32} {x4_j : Int} (t_x4 : mI x4 = x4_j) {s1 : Int32} {s1_j : Int} (t_s1 : mI s1 = s1_j) {v_at : Int32} {v_at_j : Int} (t_v_at : mI v_at = v_at_j) {v_bad : Int32} {v_bad_j : Int} (t_v_bad : mI v_bad = v_bad_j) {v_badPlace : Int32} {v_badPlace_j : Int} (t_v_badPlace : mI v_badPlace = v_badPlace_j) {v_coded : Int32} {v_coded_j : Int} (t_v_coded : mI v_coded = v_coded_j) {v_ended : Int32} {v_ended_j : Int} (t_v_ended : mI v_ended = v_ended_j) {v_open : Int32} {v_open_j : Int} (t_v_open : mI v_open = v_open_j) {v_waits : Int32} {v_waits_j : Int} (t_v_waits : mI v_waits = v_waits_j) {v_codes : (Nat → Int32)} {v_codes_j : (Nat → Int)} (t_v_codes : mA v_codes = v_codes_j) {v_wait : (Nat → Int32)} {v_wait_j : (Nat → Int)} (t_v_wait : mA v_wait = v_wait_j) : tl (mP mI (mP mI (mP mI (mP mI (mP mI (mP mI (mP mI (mP mA mA)))))))) (iM_part_b127 N_j v_end_j v_debtWord_j v_maxWord_j v_minWord_j v_paidWord_j v_penceWord_j v_poundsWord_j v_shillingsWord_j v_tape_j v_termWord_j v_yearWord_j self_j k146_j x1_j x4_j s1_j v_at_j v_bad_j v_badPlace_j v_coded_j v_ended_j v_open_j v_waits_j v_codes_j v_wait_j) (pM_part_b127 N v_end v_debtWord v_maxWord v_minWord v_paidWord v_penceWord v_poundsWord v_shillingsWord v_tape v_termWord v_yearWord self k146 x1 x4 s1 v_at v_bad v_badPlace v_coded v_ended v_open v_waits v_codes v_wait) := by
  subst t_N
  subst t_v_end
  subst t_v_debtWord
  subst t_v_maxWord
  subst t_v_minWord
  subst t_v_paidWord
  subst t_v_penceWord
  subst t_v_poundsWord
  subst t_v_shillingsWord
  subst t_v_tape
  subst t_v_termWord
  subst t_v_yearWord
  subst t_x1
  subst t_x4
  subst t_s1
  subst t_v_at
  subst t_v_bad
  subst t_v_badPlace
  subst t_v_coded
  subst t_v_ended
  subst t_v_open
  subst t_v_waits
  subst t_v_codes
  subst t_v_wait
  unfold iM_part_b127 pM_part_b127
  refine tl_bd5 (t_pM_opens (Eq.refl (mI s1)) (Eq.refl (mI x4)) (Eq.refl (mI v_bad)) (Eq.refl (mI v_badPlace)) (Eq.refl (mI v_open)) (Eq.refl (mI v_waits)) (Eq.refl (mA v_wait))) (fun v_bad_c18 v_badPlace_c18 v_open_c18 v_waits_c18 v_wait_c18 => ?_)
  exact (t_pM_part_b132 (Eq.refl N) (Eq.refl (mI v_end)) (Eq.refl (mA v_debtWord)) (Eq.refl (mA v_maxWord)) (Eq.refl (mA v_minWord)) (Eq.refl (mA v_paidWord)) (Eq.refl (mA v_penceWord)) (Eq.refl (mA v_poundsWord)) (Eq.refl (mA v_shillingsWord)) (Eq.refl (mA v_tape)) (Eq.refl (mA v_termWord)) (Eq.refl (mA v_yearWord)) t_self t_k146 (Eq.refl (mI x1)) (Eq.refl (mI v_at)) (Eq.refl (mI v_bad_c18)) (Eq.refl (mI v_badPlace_c18)) (Eq.refl (mI v_coded)) (Eq.refl (mI v_ended)) (Eq.refl (mI v_open_c18)) (Eq.refl (mI v_waits_c18)) (Eq.refl (mA v_codes)) (Eq.refl (mA v_wait_c18)))
theorem t_pM_part_b107 {N N_j : Nat} (t_N : N = N_j) {v_end : Int32} {v_end_j : Int} (t_v_end : mI v_end = v_end_j) {v_debtWord : (Nat → Int32)} {v_debtWord_j : (Nat → Int)} (t_v_debtWord : mA v_debtWord = v_debtWord_j) {v_maxWord : (Nat → Int32)} {v_maxWord_j : (Nat → Int)} (t_v_maxWord : mA v_maxWord = v_maxWord_j) {v_minWord : (Nat → Int32)} {v_minWord_j : (Nat → Int)} (t_v_minWord : mA v_minWord = v_minWord_j) {v_paidWord : (Nat → Int32)} {v_paidWord_j : (Nat → Int)} (t_v_paidWord : mA v_paidWord = v_paidWord_j) {v_penceWord : (Nat → Int32)} {v_penceWord_j : (Nat → Int)} (t_v_penceWord : mA v_penceWord = v_penceWord_j) {v_poundsWord : (Nat → Int32)} {v_poundsWord_j : (Nat → Int)} (t_v_poundsWord : mA v_poundsWord = v_poundsWord_j) {v_shillingsWord : (Nat → Int32)} {v_shillingsWord_j : (Nat → Int)} (t_v_shillingsWord : mA v_shillingsWord = v_shillingsWord_j) {v_tape : (Nat → Int32)} {v_tape_j : (Nat → Int)} (t_v_tape : mA v_tape = v_tape_j) {v_termWord : (Nat → Int32)} {v_termWord_j : (Nat → Int)} (t_v_termWord : mA v_termWord = v_termWord_j) {v_yearWord : (Nat → Int32)} {v_yearWord_j : (Nat → Int)} (t_v_yearWord : mA v_yearWord = v_yearWord_j) {self : Int32 → Int32 → Int32 → Int32 → Int32 → Int32 → Int32 → (Nat → Int32) → Option R_pM_part} {self_j : Int → Int → Int → Int → Int → Int → Int → (Nat → Int) → Option R_iM_part} (t_self : ∀ (q0_ : Int32) (q1_ : Int32) (q2_ : Int32) (q3_ : Int32) (q4_ : Int32) (q5_ : Int32) (q6_ : Int32) (q7_ : (Nat → Int32)), tl (mP mI (mP mI (mP mI (mP mI (mP mI (mP mI (mP mI (mP mA mA)))))))) (self_j (mI q0_) (mI q1_) (mI q2_) (mI q3_) (mI q4_) (mI q5_) (mI q6_) (mA q7_)) (self q0_ q1_ q2_ q3_ q4_ q5_ q6_ q7_)) {k146 : Int32 → Int32 → Int32 → Int32 → Int32 → Int32 → (Nat → Int32) → Option R_pM_part} {k146_j : Int → Int → Int → Int → Int → Int → (Nat → Int) → Option R_iM_part} (t_k146 : ∀ (q0_ : Int32) (q1_ : Int32) (q2_ : Int32) (q3_ : Int32) (q4_ : Int32) (q5_ : Int32) (q6_ : (Nat → Int32)), tl (mP mI (mP mI (mP mI (mP mI (mP mI (mP mI (mP mI (mP mA mA)))))))) (k146_j (mI q0_) (mI q1_) (mI q2_) (mI q3_) (mI q4_) (mI q5_) (mA q6_)) (k146 q0_ q1_ q2_ q3_ q4_ q5_ q6_)) {x1 : Int32} {x1_j : Int} (t_x1 : mI x1 = x1_j) {x3 : Int32} {x3_j : Int} (t_x3 : mI x3 = x3_j) {s0 : Int32} {s0_j : Int} (t_s0 : mI s0 = s0_j) {v_at : Int32} {v_at_j : Int} (t_v_at : mI v_at = v_at_j) {v_bad : Int32} {v_bad_j : Int} (t_v_bad : mI v_bad = v_bad_j) {v_badPlace : Int32} {v_badPlace_j : Int} (t_v_badPlace : mI v_badPlace = v_badPlace_j) {v_coded : Int32} {v_coded_j : Int} (t_v_coded : mI v_coded = v_coded_j) {v_ended : Int32} {v_ended_j : Int} (t_v_ended : mI v_ended = v_ended_j) {v_open : Int32} {v_open_j : Int} (t_v_open : mI v_open = v_open_j) {v_waits : Int32} {v_waits_j : Int} (t_v_waits : mI v_waits = v_waits_j) {v_codes : (Nat → Int32)} {v_codes_j : (Nat → Int)} (t_v_codes : mA v_codes = v_codes_j) {v_wait : (Nat → Int32)} {v_wait_j : (Nat → Int)} (t_v_wait : mA v_wait = v_wait_j) : tl (mP mI (mP mI (mP mI (mP mI (mP mI (mP mI (mP mI (mP mA mA)))))))) (iM_part_b107 N_j v_end_j v_debtWord_j v_maxWord_j v_minWord_j v_paidWord_j v_penceWord_j v_poundsWord_j v_shillingsWord_j v_tape_j v_termWord_j v_yearWord_j self_j k146_j x1_j x3_j s0_j v_at_j v_bad_j v_badPlace_j v_coded_j v_ended_j v_open_j v_waits_j v_codes_j v_wait_j) (pM_part_b107 N v_end v_debtWord v_maxWord v_minWord v_paidWord v_penceWord v_poundsWord v_shillingsWord v_tape v_termWord v_yearWord self k146 x1 x3 s0 v_at v_bad v_badPlace v_coded v_ended v_open v_waits v_codes v_wait) := by
  subst t_N
  subst t_v_end
  subst t_v_debtWord
  subst t_v_maxWord
  subst t_v_minWord
  subst t_v_paidWord
  subst t_v_penceWord
  subst t_v_poundsWord
  subst t_v_shillingsWord
  subst t_v_tape
  subst t_v_termWord
  subst t_v_yearWord
  subst t_x1
  subst t_x3
  subst t_s0
  subst t_v_at
  subst t_v_bad
  subst t_v_badPlace
  subst t_v_coded
  subst t_v_ended
  subst t_v_open
  subst t_v_waits
  subst t_v_codes
  subst t_v_wait
  unfold iM_part_b107 pM_part_b107
  refine tl_ite (jc_eq (Eq.refl (mI s0)) jlitI_m1) ?_ ?_
  · exact (t_pM_part_b132 (Eq.refl N) (Eq.refl (mI v_end)) (Eq.refl (mA v_debtWord)) (Eq.refl (mA v_maxWord)) (Eq.refl (mA v_minWord)) (Eq.refl (mA v_paidWord)) (Eq.refl (mA v_penceWord)) (Eq.refl (mA v_poundsWord)) (Eq.refl (mA v_shillingsWord)) (Eq.refl (mA v_tape)) (Eq.refl (mA v_termWord)) (Eq.refl (mA v_yearWord)) t_self t_k146 (Eq.refl (mI x1)) (Eq.refl (mI v_at)) (Eq.refl (mI v_bad)) (Eq.refl (mI v_badPlace)) (Eq.refl (mI v_coded)) (Eq.refl (mI v_ended)) (Eq.refl (mI v_open)) (Eq.refl (mI v_waits)) (Eq.refl (mA v_codes)) (Eq.refl (mA v_wait)))
  · refine tl_ite (jc_eq (Eq.refl (mI x3)) jlitI_0) ?_ ?_
    · exact (t_pM_part_b127 (Eq.refl N) (Eq.refl (mI v_end)) (Eq.refl (mA v_debtWord)) (Eq.refl (mA v_maxWord)) (Eq.refl (mA v_minWord)) (Eq.refl (mA v_paidWord)) (Eq.refl (mA v_penceWord)) (Eq.refl (mA v_poundsWord)) (Eq.refl (mA v_shillingsWord)) (Eq.refl (mA v_tape)) (Eq.refl (mA v_termWord)) (Eq.refl (mA v_yearWord)) t_self t_k146 (Eq.refl (mI x1)) (Eq.refl (mI s0)) jlitI_22 (Eq.refl (mI v_at)) (Eq.refl (mI v_bad)) (Eq.refl (mI v_badPlace)) (Eq.refl (mI v_coded)) (Eq.refl (mI v_ended)) (Eq.refl (mI v_open)) (Eq.refl (mI v_waits)) (Eq.refl (mA v_codes)) (Eq.refl (mA v_wait)))
    · exact (t_pM_part_b127 (Eq.refl N) (Eq.refl (mI v_end)) (Eq.refl (mA v_debtWord)) (Eq.refl (mA v_maxWord)) (Eq.refl (mA v_minWord)) (Eq.refl (mA v_paidWord)) (Eq.refl (mA v_penceWord)) (Eq.refl (mA v_poundsWord)) (Eq.refl (mA v_shillingsWord)) (Eq.refl (mA v_tape)) (Eq.refl (mA v_termWord)) (Eq.refl (mA v_yearWord)) t_self t_k146 (Eq.refl (mI x1)) (Eq.refl (mI s0)) jlitI_21 (Eq.refl (mI v_at)) (Eq.refl (mI v_bad)) (Eq.refl (mI v_badPlace)) (Eq.refl (mI v_coded)) (Eq.refl (mI v_ended)) (Eq.refl (mI v_open)) (Eq.refl (mI v_waits)) (Eq.refl (mA v_codes)) (Eq.refl (mA v_wait)))
theorem t_pM_part_b90 {N N_j : Nat} (t_N : N = N_j) {v_end : Int32} {v_end_j : Int} (t_v_end : mI v_end = v_end_j) {v_debtWord : (Nat → Int32)} {v_debtWord_j : (Nat → Int)} (t_v_debtWord : mA v_debtWord = v_debtWord_j) {v_maxWord : (Nat → Int32)} {v_maxWord_j : (Nat → Int)} (t_v_maxWord : mA v_maxWord = v_maxWord_j) {v_minWord : (Nat → Int32)} {v_minWord_j : (Nat → Int)} (t_v_minWord : mA v_minWord = v_minWord_j) {v_paidWord : (Nat → Int32)} {v_paidWord_j : (Nat → Int)} (t_v_paidWord : mA v_paidWord = v_paidWord_j) {v_penceWord : (Nat → Int32)} {v_penceWord_j : (Nat → Int)} (t_v_penceWord : mA v_penceWord = v_penceWord_j) {v_poundsWord : (Nat → Int32)} {v_poundsWord_j : (Nat → Int)} (t_v_poundsWord : mA v_poundsWord = v_poundsWord_j) {v_shillingsWord : (Nat → Int32)} {v_shillingsWord_j : (Nat → Int)} (t_v_shillingsWord : mA v_shillingsWord = v_shillingsWord_j) {v_tape : (Nat → Int32)} {v_tape_j : (Nat → Int)} (t_v_tape : mA v_tape = v_tape_j) {v_termWord : (Nat → Int32)} {v_termWord_j : (Nat → Int)} (t_v_termWord : mA v_termWord = v_termWord_j) {v_yearWord : (Nat → Int32)} {v_yearWord_j : (Nat → Int)} (t_v_yearWord : mA v_yearWord = v_yearWord_j) {self : Int32 → Int32 → Int32 → Int32 → Int32 → Int32 → Int32 → (Nat → Int32) → Option R_pM_part} {self_j : Int → Int → Int → Int → Int → Int → Int → (Nat → Int) → Option R_iM_part} (t_self : ∀ (q0_ : Int32) (q1_ : Int32) (q2_ : Int32) (q3_ : Int32) (q4_ : Int32) (q5_ : Int32) (q6_ : Int32) (q7_ : (Nat → Int32)), tl (mP mI (mP mI (mP mI (mP mI (mP mI (mP mI (mP mI (mP mA mA)))))))) (self_j (mI q0_) (mI q1_) (mI q2_) (mI q3_) (mI q4_) (mI q5_) (mI q6_) (mA q7_)) (self q0_ q1_ q2_ q3_ q4_ q5_ q6_ q7_)) {k146 : Int32 → Int32 → Int32 → Int32 → Int32 → Int32 → (Nat → Int32) → Option R_pM_part} {k146_j : Int → Int → Int → Int → Int → Int → (Nat → Int) → Option R_iM_part} (t_k146 : ∀ (q0_ : Int32) (q1_ : Int32) (q2_ : Int32) (q3_ : Int32) (q4_ : Int32) (q5_ : Int32) (q6_ : (Nat → Int32)), tl (mP mI (mP mI (mP mI (mP mI (mP mI (mP mI (mP mI (mP mA mA)))))))) (k146_j (mI q0_) (mI q1_) (mI q2_) (mI q3_) (mI q4_) (mI q5_) (mA q6_)) (k146 q0_ q1_ q2_ q3_ q4_ q5_ q6_)) {x1 : Int32} {x1_j : Int} (t_x1 : mI x1 = x1_j) {x3 : Int32} {x3_j : Int} (t_x3 : mI x3 = x3_j) {v_at : Int32} {v_at_j : Int} (t_v_at : mI v_at = v_at_j) {v_bad : Int32} {v_bad_j : Int} (t_v_bad : mI v_bad = v_bad_j) {v_badPlace : Int32} {v_badPlace_j : Int} (t_v_badPlace : mI v_badPlace = v_badPlace_j) {v_coded : Int32} {v_coded_j : Int} (t_v_coded : mI v_coded = v_coded_j) {v_ended : Int32} {v_ended_j : Int} (t_v_ended : mI v_ended = v_ended_j) {v_open : Int32} {v_open_j : Int} (t_v_open : mI v_open = v_open_j) {v_waits : Int32} {v_waits_j : Int} (t_v_waits : mI v_waits = v_waits_j) {v_codes : (Nat → Int32)} {v_codes_j : (Nat → Int)} (t_v_codes : mA v_codes = v_codes_j) {v_wait : (Nat → Int32)} {v_wait_j : (Nat → Int)} (t_v_wait : mA v_wait = v_wait_j) : tl (mP mI (mP mI (mP mI (mP mI (mP mI (mP mI (mP mI (mP mA mA)))))))) (iM_part_b90 N_j v_end_j v_debtWord_j v_maxWord_j v_minWord_j v_paidWord_j v_penceWord_j v_poundsWord_j v_shillingsWord_j v_tape_j v_termWord_j v_yearWord_j self_j k146_j x1_j x3_j v_at_j v_bad_j v_badPlace_j v_coded_j v_ended_j v_open_j v_waits_j v_codes_j v_wait_j) (pM_part_b90 N v_end v_debtWord v_maxWord v_minWord v_paidWord v_penceWord v_poundsWord v_shillingsWord v_tape v_termWord v_yearWord self k146 x1 x3 v_at v_bad v_badPlace v_coded v_ended v_open v_waits v_codes v_wait) := by
  subst t_N
  subst t_v_end
  subst t_v_debtWord
  subst t_v_maxWord
  subst t_v_minWord
  subst t_v_paidWord
  subst t_v_penceWord
  subst t_v_poundsWord
  subst t_v_shillingsWord
  subst t_v_tape
  subst t_v_termWord
  subst t_v_yearWord
  subst t_x1
  subst t_x3
  subst t_v_at
  subst t_v_bad
  subst t_v_badPlace
  subst t_v_coded
  subst t_v_ended
  subst t_v_open
  subst t_v_waits
  subst t_v_codes
  subst t_v_wait
  unfold iM_part_b90 pM_part_b90
  refine tl_bd2 (t_pM_look (Eq.refl N) (Eq.refl (mI v_at)) (Eq.refl (mI v_end)) (Eq.refl (mA v_tape))) (fun rc16 v_at_c16 => ?_)
  refine tl_ite (jc_eq (Eq.refl (mI rc16)) jlitI_40) ?_ ?_
  · exact (t_pM_part_b107 (Eq.refl N) (Eq.refl (mI v_end)) (Eq.refl (mA v_debtWord)) (Eq.refl (mA v_maxWord)) (Eq.refl (mA v_minWord)) (Eq.refl (mA v_paidWord)) (Eq.refl (mA v_penceWord)) (Eq.refl (mA v_poundsWord)) (Eq.refl (mA v_shillingsWord)) (Eq.refl (mA v_tape)) (Eq.refl (mA v_termWord)) (Eq.refl (mA v_yearWord)) t_self t_k146 (Eq.refl (mI x1)) (Eq.refl (mI x3)) (Eq.refl (mI v_at_c16)) (Eq.refl (mI v_at_c16)) (Eq.refl (mI v_bad)) (Eq.refl (mI v_badPlace)) (Eq.refl (mI v_coded)) (Eq.refl (mI v_ended)) (Eq.refl (mI v_open)) (Eq.refl (mI v_waits)) (Eq.refl (mA v_codes)) (Eq.refl (mA v_wait)))
  · exact (t_pM_part_b107 (Eq.refl N) (Eq.refl (mI v_end)) (Eq.refl (mA v_debtWord)) (Eq.refl (mA v_maxWord)) (Eq.refl (mA v_minWord)) (Eq.refl (mA v_paidWord)) (Eq.refl (mA v_penceWord)) (Eq.refl (mA v_poundsWord)) (Eq.refl (mA v_shillingsWord)) (Eq.refl (mA v_tape)) (Eq.refl (mA v_termWord)) (Eq.refl (mA v_yearWord)) t_self t_k146 (Eq.refl (mI x1)) (Eq.refl (mI x3)) jlitI_m1 (Eq.refl (mI v_at_c16)) (Eq.refl (mI v_bad)) (Eq.refl (mI v_badPlace)) (Eq.refl (mI v_coded)) (Eq.refl (mI v_ended)) (Eq.refl (mI v_open)) (Eq.refl (mI v_waits)) (Eq.refl (mA v_codes)) (Eq.refl (mA v_wait)))
theorem t_pM_part_b69 {N N_j : Nat} (t_N : N = N_j) {v_end : Int32} {v_end_j : Int} (t_v_end : mI v_end = v_end_j) {v_debtWord : (Nat → Int32)} {v_debtWord_j : (Nat → Int)} (t_v_debtWord : mA v_debtWord = v_debtWord_j) {v_maxWord : (Nat → Int32)} {v_maxWord_j : (Nat → Int)} (t_v_maxWord : mA v_maxWord = v_maxWord_j) {v_minWord : (Nat → Int32)} {v_minWord_j : (Nat → Int)} (t_v_minWord : mA v_minWord = v_minWord_j) {v_paidWord : (Nat → Int32)} {v_paidWord_j : (Nat → Int)} (t_v_paidWord : mA v_paidWord = v_paidWord_j) {v_penceWord : (Nat → Int32)} {v_penceWord_j : (Nat → Int)} (t_v_penceWord : mA v_penceWord = v_penceWord_j) {v_poundsWord : (Nat → Int32)} {v_poundsWord_j : (Nat → Int)} (t_v_poundsWord : mA v_poundsWord = v_poundsWord_j) {v_shillingsWord : (Nat → Int32)} {v_shillingsWord_j : (Nat → Int)} (t_v_shillingsWord : mA v_shillingsWord = v_shillingsWord_j) {v_tape : (Nat → Int32)} {v_tape_j : (Nat → Int)} (t_v_tape : mA v_tape = v_tape_j) {v_termWord : (Nat → Int32)} {v_termWord_j : (Nat → Int)} (t_v_termWord : mA v_termWord = v_termWord_j) {v_yearWord : (Nat → Int32)} {v_yearWord_j : (Nat → Int)} (t_v_yearWord : mA v_yearWord = v_yearWord_j) {self : Int32 → Int32 → Int32 → Int32 → Int32 → Int32 → Int32 → (Nat → Int32) → Option R_pM_part} {self_j : Int → Int → Int → Int → Int → Int → Int → (Nat → Int) → Option R_iM_part} (t_self : ∀ (q0_ : Int32) (q1_ : Int32) (q2_ : Int32) (q3_ : Int32) (q4_ : Int32) (q5_ : Int32) (q6_ : Int32) (q7_ : (Nat → Int32)), tl (mP mI (mP mI (mP mI (mP mI (mP mI (mP mI (mP mI (mP mA mA)))))))) (self_j (mI q0_) (mI q1_) (mI q2_) (mI q3_) (mI q4_) (mI q5_) (mI q6_) (mA q7_)) (self q0_ q1_ q2_ q3_ q4_ q5_ q6_ q7_)) {k146 : Int32 → Int32 → Int32 → Int32 → Int32 → Int32 → (Nat → Int32) → Option R_pM_part} {k146_j : Int → Int → Int → Int → Int → Int → (Nat → Int) → Option R_iM_part} (t_k146 : ∀ (q0_ : Int32) (q1_ : Int32) (q2_ : Int32) (q3_ : Int32) (q4_ : Int32) (q5_ : Int32) (q6_ : (Nat → Int32)), tl (mP mI (mP mI (mP mI (mP mI (mP mI (mP mI (mP mI (mP mA mA)))))))) (k146_j (mI q0_) (mI q1_) (mI q2_) (mI q3_) (mI q4_) (mI q5_) (mA q6_)) (k146 q0_ q1_ q2_ q3_ q4_ q5_ q6_)) {x1 : Int32} {x1_j : Int} (t_x1 : mI x1 = x1_j) {v_at : Int32} {v_at_j : Int} (t_v_at : mI v_at = v_at_j) {v_bad : Int32} {v_bad_j : Int} (t_v_bad : mI v_bad = v_bad_j) {v_badPlace : Int32} {v_badPlace_j : Int} (t_v_badPlace : mI v_badPlace = v_badPlace_j) {v_coded : Int32} {v_coded_j : Int} (t_v_coded : mI v_coded = v_coded_j) {v_ended : Int32} {v_ended_j : Int} (t_v_ended : mI v_ended = v_ended_j) {v_open : Int32} {v_open_j : Int} (t_v_open : mI v_open = v_open_j) {v_waits : Int32} {v_waits_j : Int} (t_v_waits : mI v_waits = v_waits_j) {v_codes : (Nat → Int32)} {v_codes_j : (Nat → Int)} (t_v_codes : mA v_codes = v_codes_j) {v_wait : (Nat → Int32)} {v_wait_j : (Nat → Int)} (t_v_wait : mA v_wait = v_wait_j) : tl (mP mI (mP mI (mP mI (mP mI (mP mI (mP mI (mP mI (mP mA mA)))))))) (iM_part_b69 N_j v_end_j v_debtWord_j v_maxWord_j v_minWord_j v_paidWord_j v_penceWord_j v_poundsWord_j v_shillingsWord_j v_tape_j v_termWord_j v_yearWord_j self_j k146_j x1_j v_at_j v_bad_j v_badPlace_j v_coded_j v_ended_j v_open_j v_waits_j v_codes_j v_wait_j) (pM_part_b69 N v_end v_debtWord v_maxWord v_minWord v_paidWord v_penceWord v_poundsWord v_shillingsWord v_tape v_termWord v_yearWord self k146 x1 v_at v_bad v_badPlace v_coded v_ended v_open v_waits v_codes v_wait) := by
  subst t_N
  subst t_v_end
  subst t_v_debtWord
  subst t_v_maxWord
  subst t_v_minWord
  subst t_v_paidWord
  subst t_v_penceWord
  subst t_v_poundsWord
  subst t_v_shillingsWord
  subst t_v_tape
  subst t_v_termWord
  subst t_v_yearWord
  subst t_x1
  subst t_v_at
  subst t_v_bad
  subst t_v_badPlace
  subst t_v_coded
  subst t_v_ended
  subst t_v_open
  subst t_v_waits
  subst t_v_codes
  subst t_v_wait
  unfold iM_part_b69 pM_part_b69
  refine tl_bd3 (t_pM_takes (Eq.refl N) (Eq.refl _) (Eq.refl (mA v_minWord)) (Eq.refl (mI v_at)) (Eq.refl (mI v_bad)) (Eq.refl (mI v_end)) (Eq.refl (mI v_ended)) (Eq.refl (mA v_tape))) (fun rc14 v_at_c14 v_ended_c14 => ?_)
  refine tl_ite (jc_eq (Eq.refl (mI rc14)) jlitI_0) ?_ ?_
  · refine tl_bd4 (t_pM_asks (Eq.refl N) (Eq.refl _) (Eq.refl (mA v_maxWord)) (Eq.refl (mI v_at_c14)) (Eq.refl (mI v_bad)) (Eq.refl (mI v_badPlace)) (Eq.refl (mI v_end)) (Eq.refl (mI v_ended_c14)) (Eq.refl (mA v_tape))) (fun v_at_c15 v_bad_c15 v_badPlace_c15 v_ended_c15 => ?_)
    exact (t_pM_part_b90 (Eq.refl N) (Eq.refl (mI v_end)) (Eq.refl (mA v_debtWord)) (Eq.refl (mA v_maxWord)) (Eq.refl (mA v_minWord)) (Eq.refl (mA v_paidWord)) (Eq.refl (mA v_penceWord)) (Eq.refl (mA v_poundsWord)) (Eq.refl (mA v_shillingsWord)) (Eq.refl (mA v_tape)) (Eq.refl (mA v_termWord)) (Eq.refl (mA v_yearWord)) t_self t_k146 (Eq.refl (mI x1)) (Eq.refl (mI rc14)) (Eq.refl (mI v_at_c15)) (Eq.refl (mI v_bad_c15)) (Eq.refl (mI v_badPlace_c15)) (Eq.refl (mI v_coded)) (Eq.refl (mI v_ended_c15)) (Eq.refl (mI v_open)) (Eq.refl (mI v_waits)) (Eq.refl (mA v_codes)) (Eq.refl (mA v_wait)))
  · exact (t_pM_part_b90 (Eq.refl N) (Eq.refl (mI v_end)) (Eq.refl (mA v_debtWord)) (Eq.refl (mA v_maxWord)) (Eq.refl (mA v_minWord)) (Eq.refl (mA v_paidWord)) (Eq.refl (mA v_penceWord)) (Eq.refl (mA v_poundsWord)) (Eq.refl (mA v_shillingsWord)) (Eq.refl (mA v_tape)) (Eq.refl (mA v_termWord)) (Eq.refl (mA v_yearWord)) t_self t_k146 (Eq.refl (mI x1)) (Eq.refl (mI rc14)) (Eq.refl (mI v_at_c14)) (Eq.refl (mI v_bad)) (Eq.refl (mI v_badPlace)) (Eq.refl (mI v_coded)) (Eq.refl (mI v_ended_c14)) (Eq.refl (mI v_open)) (Eq.refl (mI v_waits)) (Eq.refl (mA v_codes)) (Eq.refl (mA v_wait)))
theorem t_pM_part_b2_F {N N_j : Nat} (t_N : N = N_j) {v_end : Int32} {v_end_j : Int} (t_v_end : mI v_end = v_end_j) {v_debtWord : (Nat → Int32)} {v_debtWord_j : (Nat → Int)} (t_v_debtWord : mA v_debtWord = v_debtWord_j) {v_maxWord : (Nat → Int32)} {v_maxWord_j : (Nat → Int)} (t_v_maxWord : mA v_maxWord = v_maxWord_j) {v_minWord : (Nat → Int32)} {v_minWord_j : (Nat → Int)} (t_v_minWord : mA v_minWord = v_minWord_j) {v_paidWord : (Nat → Int32)} {v_paidWord_j : (Nat → Int)} (t_v_paidWord : mA v_paidWord = v_paidWord_j) {v_penceWord : (Nat → Int32)} {v_penceWord_j : (Nat → Int)} (t_v_penceWord : mA v_penceWord = v_penceWord_j) {v_poundsWord : (Nat → Int32)} {v_poundsWord_j : (Nat → Int)} (t_v_poundsWord : mA v_poundsWord = v_poundsWord_j) {v_shillingsWord : (Nat → Int32)} {v_shillingsWord_j : (Nat → Int)} (t_v_shillingsWord : mA v_shillingsWord = v_shillingsWord_j) {v_tape : (Nat → Int32)} {v_tape_j : (Nat → Int)} (t_v_tape : mA v_tape = v_tape_j) {v_termWord : (Nat → Int32)} {v_termWord_j : (Nat → Int)} (t_v_termWord : mA v_termWord = v_termWord_j) {v_yearWord : (Nat → Int32)} {v_yearWord_j : (Nat → Int)} (t_v_yearWord : mA v_yearWord = v_yearWord_j) {v_coded : Int32} {v_coded_j : Int} (t_v_coded : mI v_coded = v_coded_j) {v_codes : (Nat → Int32)} {v_codes_j : (Nat → Int)} (t_v_codes : mA v_codes = v_codes_j) {k146 : Int32 → Int32 → Int32 → Int32 → Int32 → Int32 → (Nat → Int32) → Option R_pM_part} {k146_j : Int → Int → Int → Int → Int → Int → (Nat → Int) → Option R_iM_part} (t_k146 : ∀ (q0_ : Int32) (q1_ : Int32) (q2_ : Int32) (q3_ : Int32) (q4_ : Int32) (q5_ : Int32) (q6_ : (Nat → Int32)), tl (mP mI (mP mI (mP mI (mP mI (mP mI (mP mI (mP mI (mP mA mA)))))))) (k146_j (mI q0_) (mI q1_) (mI q2_) (mI q3_) (mI q4_) (mI q5_) (mA q6_)) (k146 q0_ q1_ q2_ q3_ q4_ q5_ q6_)) {self : Int32 → Int32 → Int32 → Int32 → Int32 → Int32 → Int32 → (Nat → Int32) → Option R_pM_part} {self_j : Int → Int → Int → Int → Int → Int → Int → (Nat → Int) → Option R_iM_part} (t_self : ∀ (q0_ : Int32) (q1_ : Int32) (q2_ : Int32) (q3_ : Int32) (q4_ : Int32) (q5_ : Int32) (q6_ : Int32) (q7_ : (Nat → Int32)), tl (mP mI (mP mI (mP mI (mP mI (mP mI (mP mI (mP mI (mP mA mA)))))))) (self_j (mI q0_) (mI q1_) (mI q2_) (mI q3_) (mI q4_) (mI q5_) (mI q6_) (mA q7_)) (self q0_ q1_ q2_ q3_ q4_ q5_ q6_ q7_)) {x1 : Int32} {x1_j : Int} (t_x1 : mI x1 = x1_j) {v_at : Int32} {v_at_j : Int} (t_v_at : mI v_at = v_at_j) {v_bad : Int32} {v_bad_j : Int} (t_v_bad : mI v_bad = v_bad_j) {v_badPlace : Int32} {v_badPlace_j : Int} (t_v_badPlace : mI v_badPlace = v_badPlace_j) {v_ended : Int32} {v_ended_j : Int} (t_v_ended : mI v_ended = v_ended_j) {v_open : Int32} {v_open_j : Int} (t_v_open : mI v_open = v_open_j) {v_waits : Int32} {v_waits_j : Int} (t_v_waits : mI v_waits = v_waits_j) {v_wait : (Nat → Int32)} {v_wait_j : (Nat → Int)} (t_v_wait : mA v_wait = v_wait_j) : tl (mP mI (mP mI (mP mI (mP mI (mP mI (mP mI (mP mI (mP mA mA)))))))) (iM_part_b2_F N_j v_end_j v_debtWord_j v_maxWord_j v_minWord_j v_paidWord_j v_penceWord_j v_poundsWord_j v_shillingsWord_j v_tape_j v_termWord_j v_yearWord_j v_coded_j v_codes_j k146_j self_j x1_j v_at_j v_bad_j v_badPlace_j v_ended_j v_open_j v_waits_j v_wait_j) (pM_part_b2_F N v_end v_debtWord v_maxWord v_minWord v_paidWord v_penceWord v_poundsWord v_shillingsWord v_tape v_termWord v_yearWord v_coded v_codes k146 self x1 v_at v_bad v_badPlace v_ended v_open v_waits v_wait) := by
  subst t_N
  subst t_v_end
  subst t_v_debtWord
  subst t_v_maxWord
  subst t_v_minWord
  subst t_v_paidWord
  subst t_v_penceWord
  subst t_v_poundsWord
  subst t_v_shillingsWord
  subst t_v_tape
  subst t_v_termWord
  subst t_v_yearWord
  subst t_v_coded
  subst t_v_codes
  subst t_x1
  subst t_v_at
  subst t_v_bad
  subst t_v_badPlace
  subst t_v_ended
  subst t_v_open
  subst t_v_waits
  subst t_v_wait
  unfold iM_part_b2_F pM_part_b2_F
  refine tl_ite (jc_eq (Eq.refl (mI x1)) jlitI_0) ?_ ?_
  · exact (tl_e7 (Eq.refl (mI v_at)) (Eq.refl (mI v_bad)) (Eq.refl (mI v_badPlace)) (Eq.refl (mI v_ended)) (Eq.refl (mI v_open)) (Eq.refl (mI v_waits)) (Eq.refl (mA v_wait)) (t_k146 _ _ _ _ _ _ _))
  · refine tl_ite (jc_eq (Eq.refl (mI v_bad)) jlitI_0) ?_ ?_
    · refine tl_bd2 (t_pM_look (Eq.refl N) (Eq.refl (mI v_at)) (Eq.refl (mI v_end)) (Eq.refl (mA v_tape))) (fun rc1 v_at_c1 => ?_)
      refine tl_ite (jc_eq (Eq.refl (mI rc1)) jlitI_40) ?_ ?_
      · refine tl_bd5 (t_pM_opens jlitI_20 (Eq.refl (mI v_at_c1)) (Eq.refl (mI v_bad)) (Eq.refl (mI v_badPlace)) (Eq.refl (mI v_open)) (Eq.refl (mI v_waits)) (Eq.refl (mA v_wait))) (fun v_bad_c4 v_badPlace_c4 v_open_c4 v_waits_c4 v_wait_c4 => ?_)
        refine tl_g (fun h1 => ?_)
        exact (tl_e8 (Eq.refl (mI x1)) (ja_add (Eq.refl (mI v_at_c1)) jlitI_1 h1) (Eq.refl (mI v_bad_c4)) (Eq.refl (mI v_badPlace_c4)) (Eq.refl (mI v_ended)) (Eq.refl (mI v_open_c4)) (Eq.refl (mI v_waits_c4)) (Eq.refl (mA v_wait_c4)) (t_self _ _ _ _ _ _ _ _))
      · refine tl_bd2 (t_pM_isHere (Eq.refl N) (Eq.refl _) (Eq.refl (mA v_minWord)) (Eq.refl (mI v_at_c1)) (Eq.refl (mI v_bad)) (Eq.refl (mI v_end)) (Eq.refl (mI v_ended)) (Eq.refl (mA v_tape))) (fun rc2 v_at_c2 => ?_)
        refine tl_ite (jc_eq (Eq.refl (mI rc2)) jlitI_0) ?_ ?_
        · refine tl_bd2 (t_pM_isHere (Eq.refl N) (Eq.refl _) (Eq.refl (mA v_maxWord)) (Eq.refl (mI v_at_c2)) (Eq.refl (mI v_bad)) (Eq.refl (mI v_end)) (Eq.refl (mI v_ended)) (Eq.refl (mA v_tape))) (fun rc3 v_at_c3 => ?_)
          refine tl_ite (jc_eq (Eq.refl (mI rc3)) jlitI_0) ?_ ?_
          · exact (tl_e8 jlitI_0 (Eq.refl (mI v_at_c3)) (Eq.refl (mI v_bad)) (Eq.refl (mI v_badPlace)) (Eq.refl (mI v_ended)) (Eq.refl (mI v_open)) (Eq.refl (mI v_waits)) (Eq.refl (mA v_wait)) (t_self _ _ _ _ _ _ _ _))
          · exact (t_pM_part_b69 (Eq.refl N) (Eq.refl (mI v_end)) (Eq.refl (mA v_debtWord)) (Eq.refl (mA v_maxWord)) (Eq.refl (mA v_minWord)) (Eq.refl (mA v_paidWord)) (Eq.refl (mA v_penceWord)) (Eq.refl (mA v_poundsWord)) (Eq.refl (mA v_shillingsWord)) (Eq.refl (mA v_tape)) (Eq.refl (mA v_termWord)) (Eq.refl (mA v_yearWord)) t_self t_k146 (Eq.refl (mI x1)) (Eq.refl (mI v_at_c3)) (Eq.refl (mI v_bad)) (Eq.refl (mI v_badPlace)) (Eq.refl (mI v_coded)) (Eq.refl (mI v_ended)) (Eq.refl (mI v_open)) (Eq.refl (mI v_waits)) (Eq.refl (mA v_codes)) (Eq.refl (mA v_wait)))
        · exact (t_pM_part_b69 (Eq.refl N) (Eq.refl (mI v_end)) (Eq.refl (mA v_debtWord)) (Eq.refl (mA v_maxWord)) (Eq.refl (mA v_minWord)) (Eq.refl (mA v_paidWord)) (Eq.refl (mA v_penceWord)) (Eq.refl (mA v_poundsWord)) (Eq.refl (mA v_shillingsWord)) (Eq.refl (mA v_tape)) (Eq.refl (mA v_termWord)) (Eq.refl (mA v_yearWord)) t_self t_k146 (Eq.refl (mI x1)) (Eq.refl (mI v_at_c2)) (Eq.refl (mI v_bad)) (Eq.refl (mI v_badPlace)) (Eq.refl (mI v_coded)) (Eq.refl (mI v_ended)) (Eq.refl (mI v_open)) (Eq.refl (mI v_waits)) (Eq.refl (mA v_codes)) (Eq.refl (mA v_wait)))
    · exact (tl_e7 (Eq.refl (mI v_at)) (Eq.refl (mI v_bad)) (Eq.refl (mI v_badPlace)) (Eq.refl (mI v_ended)) (Eq.refl (mI v_open)) (Eq.refl (mI v_waits)) (Eq.refl (mA v_wait)) (t_k146 _ _ _ _ _ _ _))
theorem t_pM_part_b2 {N N_j : Nat} (t_N : N = N_j) {v_end : Int32} {v_end_j : Int} (t_v_end : mI v_end = v_end_j) {v_debtWord : (Nat → Int32)} {v_debtWord_j : (Nat → Int)} (t_v_debtWord : mA v_debtWord = v_debtWord_j) {v_maxWord : (Nat → Int32)} {v_maxWord_j : (Nat → Int)} (t_v_maxWord : mA v_maxWord = v_maxWord_j) {v_minWord : (Nat → Int32)} {v_minWord_j : (Nat → Int)} (t_v_minWord : mA v_minWord = v_minWord_j) {v_paidWord : (Nat → Int32)} {v_paidWord_j : (Nat → Int)} (t_v_paidWord : mA v_paidWord = v_paidWord_j) {v_penceWord : (Nat → Int32)} {v_penceWord_j : (Nat → Int)} (t_v_penceWord : mA v_penceWord = v_penceWord_j) {v_poundsWord : (Nat → Int32)} {v_poundsWord_j : (Nat → Int)} (t_v_poundsWord : mA v_poundsWord = v_poundsWord_j) {v_shillingsWord : (Nat → Int32)} {v_shillingsWord_j : (Nat → Int)} (t_v_shillingsWord : mA v_shillingsWord = v_shillingsWord_j) {v_tape : (Nat → Int32)} {v_tape_j : (Nat → Int)} (t_v_tape : mA v_tape = v_tape_j) {v_termWord : (Nat → Int32)} {v_termWord_j : (Nat → Int)} (t_v_termWord : mA v_termWord = v_termWord_j) {v_yearWord : (Nat → Int32)} {v_yearWord_j : (Nat → Int)} (t_v_yearWord : mA v_yearWord = v_yearWord_j) {v_coded : Int32} {v_coded_j : Int} (t_v_coded : mI v_coded = v_coded_j) {v_codes : (Nat → Int32)} {v_codes_j : (Nat → Int)} (t_v_codes : mA v_codes = v_codes_j) {k146 : Int32 → Int32 → Int32 → Int32 → Int32 → Int32 → (Nat → Int32) → Option R_pM_part} {k146_j : Int → Int → Int → Int → Int → Int → (Nat → Int) → Option R_iM_part} (t_k146 : ∀ (q0_ : Int32) (q1_ : Int32) (q2_ : Int32) (q3_ : Int32) (q4_ : Int32) (q5_ : Int32) (q6_ : (Nat → Int32)), tl (mP mI (mP mI (mP mI (mP mI (mP mI (mP mI (mP mI (mP mA mA)))))))) (k146_j (mI q0_) (mI q1_) (mI q2_) (mI q3_) (mI q4_) (mI q5_) (mA q6_)) (k146 q0_ q1_ q2_ q3_ q4_ q5_ q6_)) {n n_j : Nat} (t_n : n = n_j) {w0_ : Int32} {w0__j : Int} (t_w0_ : mI w0_ = w0__j) {w1_ : Int32} {w1__j : Int} (t_w1_ : mI w1_ = w1__j) {w2_ : Int32} {w2__j : Int} (t_w2_ : mI w2_ = w2__j) {w3_ : Int32} {w3__j : Int} (t_w3_ : mI w3_ = w3__j) {w4_ : Int32} {w4__j : Int} (t_w4_ : mI w4_ = w4__j) {w5_ : Int32} {w5__j : Int} (t_w5_ : mI w5_ = w5__j) {w6_ : Int32} {w6__j : Int} (t_w6_ : mI w6_ = w6__j) {w7_ : (Nat → Int32)} {w7__j : (Nat → Int)} (t_w7_ : mA w7_ = w7__j) : tl (mP mI (mP mI (mP mI (mP mI (mP mI (mP mI (mP mI (mP mA mA)))))))) (iM_part_b2 N_j v_end_j v_debtWord_j v_maxWord_j v_minWord_j v_paidWord_j v_penceWord_j v_poundsWord_j v_shillingsWord_j v_tape_j v_termWord_j v_yearWord_j v_coded_j v_codes_j k146_j n_j w0__j w1__j w2__j w3__j w4__j w5__j w6__j w7__j) (pM_part_b2 N v_end v_debtWord v_maxWord v_minWord v_paidWord v_penceWord v_poundsWord v_shillingsWord v_tape v_termWord v_yearWord v_coded v_codes k146 n w0_ w1_ w2_ w3_ w4_ w5_ w6_ w7_) := by
  subst t_N
  subst t_v_end
  subst t_v_debtWord
  subst t_v_maxWord
  subst t_v_minWord
  subst t_v_paidWord
  subst t_v_penceWord
  subst t_v_poundsWord
  subst t_v_shillingsWord
  subst t_v_tape
  subst t_v_termWord
  subst t_v_yearWord
  subst t_v_coded
  subst t_v_codes
  subst t_n
  subst t_w0_
  subst t_w1_
  subst t_w2_
  subst t_w3_
  subst t_w4_
  subst t_w5_
  subst t_w6_
  subst t_w7_
  exact tl_zlp8 (fun s2 s hs w0_ w1_ w2_ w3_ w4_ w5_ w6_ w7_ => t_pM_part_b2_F (Eq.refl N) (Eq.refl (mI v_end)) (Eq.refl (mA v_debtWord)) (Eq.refl (mA v_maxWord)) (Eq.refl (mA v_minWord)) (Eq.refl (mA v_paidWord)) (Eq.refl (mA v_penceWord)) (Eq.refl (mA v_poundsWord)) (Eq.refl (mA v_shillingsWord)) (Eq.refl (mA v_tape)) (Eq.refl (mA v_termWord)) (Eq.refl (mA v_yearWord)) (Eq.refl (mI v_coded)) (Eq.refl (mA v_codes)) t_k146 hs (Eq.refl (mI w0_)) (Eq.refl (mI w1_)) (Eq.refl (mI w2_)) (Eq.refl (mI w3_)) (Eq.refl (mI w4_)) (Eq.refl (mI w5_)) (Eq.refl (mI w6_)) (Eq.refl (mA w7_))) n w0_ w1_ w2_ w3_ w4_ w5_ w6_ w7_
theorem t_pM_part_b146 {N N_j : Nat} (t_N : N = N_j) {v_end : Int32} {v_end_j : Int} (t_v_end : mI v_end = v_end_j) {v_debtWord : (Nat → Int32)} {v_debtWord_j : (Nat → Int)} (t_v_debtWord : mA v_debtWord = v_debtWord_j) {v_maxWord : (Nat → Int32)} {v_maxWord_j : (Nat → Int)} (t_v_maxWord : mA v_maxWord = v_maxWord_j) {v_minWord : (Nat → Int32)} {v_minWord_j : (Nat → Int)} (t_v_minWord : mA v_minWord = v_minWord_j) {v_paidWord : (Nat → Int32)} {v_paidWord_j : (Nat → Int)} (t_v_paidWord : mA v_paidWord = v_paidWord_j) {v_penceWord : (Nat → Int32)} {v_penceWord_j : (Nat → Int)} (t_v_penceWord : mA v_penceWord = v_penceWord_j) {v_poundsWord : (Nat → Int32)} {v_poundsWord_j : (Nat → Int)} (t_v_poundsWord : mA v_poundsWord = v_poundsWord_j) {v_shillingsWord : (Nat → Int32)} {v_shillingsWord_j : (Nat → Int)} (t_v_shillingsWord : mA v_shillingsWord = v_shillingsWord_j) {v_tape : (Nat → Int32)} {v_tape_j : (Nat → Int)} (t_v_tape : mA v_tape = v_tape_j) {v_termWord : (Nat → Int32)} {v_termWord_j : (Nat → Int)} (t_v_termWord : mA v_termWord = v_termWord_j) {v_yearWord : (Nat → Int32)} {v_yearWord_j : (Nat → Int)} (t_v_yearWord : mA v_yearWord = v_yearWord_j) {v_at : Int32} {v_at_j : Int} (t_v_at : mI v_at = v_at_j) {v_bad : Int32} {v_bad_j : Int} (t_v_bad : mI v_bad = v_bad_j) {v_badPlace : Int32} {v_badPlace_j : Int} (t_v_badPlace : mI v_badPlace = v_badPlace_j) {v_coded : Int32} {v_coded_j : Int} (t_v_coded : mI v_coded = v_coded_j) {v_ended : Int32} {v_ended_j : Int} (t_v_ended : mI v_ended = v_ended_j) {v_open : Int32} {v_open_j : Int} (t_v_open : mI v_open = v_open_j) {v_waits : Int32} {v_waits_j : Int} (t_v_waits : mI v_waits = v_waits_j) {v_codes : (Nat → Int32)} {v_codes_j : (Nat → Int)} (t_v_codes : mA v_codes = v_codes_j) {v_wait : (Nat → Int32)} {v_wait_j : (Nat → Int)} (t_v_wait : mA v_wait = v_wait_j) : tl (mP mI (mP mI (mP mI (mP mI (mP mI (mP mI (mP mI (mP mA mA)))))))) (iM_part_b146 N_j v_end_j v_debtWord_j v_maxWord_j v_minWord_j v_paidWord_j v_penceWord_j v_poundsWord_j v_shillingsWord_j v_tape_j v_termWord_j v_yearWord_j v_at_j v_bad_j v_badPlace_j v_coded_j v_ended_j v_open_j v_waits_j v_codes_j v_wait_j) (pM_part_b146 N v_end v_debtWord v_maxWord v_minWord v_paidWord v_penceWord v_poundsWord v_shillingsWord v_tape v_termWord v_yearWord v_at v_bad v_badPlace v_coded v_ended v_open v_waits v_codes v_wait) := by
  subst t_N
  subst t_v_end
  subst t_v_debtWord
  subst t_v_maxWord
  subst t_v_minWord
  subst t_v_paidWord
  subst t_v_penceWord
  subst t_v_poundsWord
  subst t_v_shillingsWord
  subst t_v_tape
  subst t_v_termWord
  subst t_v_yearWord
  subst t_v_at
  subst t_v_bad
  subst t_v_badPlace
  subst t_v_coded
  subst t_v_ended
  subst t_v_open
  subst t_v_waits
  subst t_v_codes
  subst t_v_wait
  unfold iM_part_b146 pM_part_b146
  refine tl_ite (jc_eq (Eq.refl (mI v_bad)) jlitI_0) ?_ ?_
  · refine tl_bd3 (t_pM_takes (Eq.refl N) (Eq.refl _) (Eq.refl (mA v_termWord)) (Eq.refl (mI v_at)) (Eq.refl (mI v_bad)) (Eq.refl (mI v_end)) (Eq.refl (mI v_ended)) (Eq.refl (mA v_tape))) (fun rc5 v_at_c5 v_ended_c5 => ?_)
    refine tl_ite (jc_eq (Eq.refl (mI rc5)) jlitI_0) ?_ ?_
    · refine tl_bd3 (t_pM_takes (Eq.refl N) (Eq.refl _) (Eq.refl (mA v_yearWord)) (Eq.refl (mI v_at_c5)) (Eq.refl (mI v_bad)) (Eq.refl (mI v_end)) (Eq.refl (mI v_ended_c5)) (Eq.refl (mA v_tape))) (fun rc6 v_at_c6 v_ended_c6 => ?_)
      refine tl_ite (jc_eq (Eq.refl (mI rc6)) jlitI_0) ?_ ?_
      · refine tl_bd3 (t_pM_takes (Eq.refl N) (Eq.refl _) (Eq.refl (mA v_debtWord)) (Eq.refl (mI v_at_c6)) (Eq.refl (mI v_bad)) (Eq.refl (mI v_end)) (Eq.refl (mI v_ended_c6)) (Eq.refl (mA v_tape))) (fun rc7 v_at_c7 v_ended_c7 => ?_)
        refine tl_ite (jc_eq (Eq.refl (mI rc7)) jlitI_0) ?_ ?_
        · refine tl_bd3 (t_pM_takes (Eq.refl N) (Eq.refl _) (Eq.refl (mA v_paidWord)) (Eq.refl (mI v_at_c7)) (Eq.refl (mI v_bad)) (Eq.refl (mI v_end)) (Eq.refl (mI v_ended_c7)) (Eq.refl (mA v_tape))) (fun rc8 v_at_c8 v_ended_c8 => ?_)
          refine tl_ite (jc_eq (Eq.refl (mI rc8)) jlitI_0) ?_ ?_
          · refine tl_bd6 (t_pM_numberPart (Eq.refl N) (Eq.refl (mI v_at_c8)) (Eq.refl (mI v_bad)) (Eq.refl (mI v_badPlace)) (Eq.refl (mI v_coded)) (Eq.refl (mI v_end)) (Eq.refl (mI v_ended_c8)) (Eq.refl (mA v_codes)) (Eq.refl (mA v_penceWord)) (Eq.refl (mA v_poundsWord)) (Eq.refl (mA v_shillingsWord)) (Eq.refl (mA v_tape))) (fun v_at_c9 v_bad_c9 v_badPlace_c9 v_coded_c9 v_ended_c9 v_codes_c9 => ?_)
            exact (tl_some (jp2 (Eq.refl (mI v_at_c9)) (jp2 (Eq.refl (mI v_bad_c9)) (jp2 (Eq.refl (mI v_badPlace_c9)) (jp2 (Eq.refl (mI v_coded_c9)) (jp2 (Eq.refl (mI v_ended_c9)) (jp2 (Eq.refl (mI v_open)) (jp2 (Eq.refl (mI v_waits)) (jp2 (Eq.refl (mA v_codes_c9)) (Eq.refl (mA v_wait)))))))))))
          · refine tl_bd2 (t_pM_code jlitI_10 (Eq.refl (mI v_coded)) (Eq.refl (mA v_codes))) (fun v_coded_c10 v_codes_c10 => ?_)
            exact (tl_some (jp2 (Eq.refl (mI v_at_c8)) (jp2 (Eq.refl (mI v_bad)) (jp2 (Eq.refl (mI v_badPlace)) (jp2 (Eq.refl (mI v_coded_c10)) (jp2 (Eq.refl (mI v_ended_c8)) (jp2 (Eq.refl (mI v_open)) (jp2 (Eq.refl (mI v_waits)) (jp2 (Eq.refl (mA v_codes_c10)) (Eq.refl (mA v_wait)))))))))))
        · refine tl_bd2 (t_pM_code jlitI_9 (Eq.refl (mI v_coded)) (Eq.refl (mA v_codes))) (fun v_coded_c11 v_codes_c11 => ?_)
          exact (tl_some (jp2 (Eq.refl (mI v_at_c7)) (jp2 (Eq.refl (mI v_bad)) (jp2 (Eq.refl (mI v_badPlace)) (jp2 (Eq.refl (mI v_coded_c11)) (jp2 (Eq.refl (mI v_ended_c7)) (jp2 (Eq.refl (mI v_open)) (jp2 (Eq.refl (mI v_waits)) (jp2 (Eq.refl (mA v_codes_c11)) (Eq.refl (mA v_wait)))))))))))
      · refine tl_bd2 (t_pM_code jlitI_8 (Eq.refl (mI v_coded)) (Eq.refl (mA v_codes))) (fun v_coded_c12 v_codes_c12 => ?_)
        exact (tl_some (jp2 (Eq.refl (mI v_at_c6)) (jp2 (Eq.refl (mI v_bad)) (jp2 (Eq.refl (mI v_badPlace)) (jp2 (Eq.refl (mI v_coded_c12)) (jp2 (Eq.refl (mI v_ended_c6)) (jp2 (Eq.refl (mI v_open)) (jp2 (Eq.refl (mI v_waits)) (jp2 (Eq.refl (mA v_codes_c12)) (Eq.refl (mA v_wait)))))))))))
    · refine tl_bd2 (t_pM_code jlitI_7 (Eq.refl (mI v_coded)) (Eq.refl (mA v_codes))) (fun v_coded_c13 v_codes_c13 => ?_)
      exact (tl_some (jp2 (Eq.refl (mI v_at_c5)) (jp2 (Eq.refl (mI v_bad)) (jp2 (Eq.refl (mI v_badPlace)) (jp2 (Eq.refl (mI v_coded_c13)) (jp2 (Eq.refl (mI v_ended_c5)) (jp2 (Eq.refl (mI v_open)) (jp2 (Eq.refl (mI v_waits)) (jp2 (Eq.refl (mA v_codes_c13)) (Eq.refl (mA v_wait)))))))))))
  · exact (tl_some (jp2 (Eq.refl (mI v_at)) (jp2 (Eq.refl (mI v_bad)) (jp2 (Eq.refl (mI v_badPlace)) (jp2 (Eq.refl (mI v_coded)) (jp2 (Eq.refl (mI v_ended)) (jp2 (Eq.refl (mI v_open)) (jp2 (Eq.refl (mI v_waits)) (jp2 (Eq.refl (mA v_codes)) (Eq.refl (mA v_wait)))))))))))
theorem t_pM_part {N N_j : Nat} (t_N : N = N_j) {v_at : Int32} {v_at_j : Int} (t_v_at : mI v_at = v_at_j) {v_bad : Int32} {v_bad_j : Int} (t_v_bad : mI v_bad = v_bad_j) {v_badPlace : Int32} {v_badPlace_j : Int} (t_v_badPlace : mI v_badPlace = v_badPlace_j) {v_coded : Int32} {v_coded_j : Int} (t_v_coded : mI v_coded = v_coded_j) {v_end : Int32} {v_end_j : Int} (t_v_end : mI v_end = v_end_j) {v_ended : Int32} {v_ended_j : Int} (t_v_ended : mI v_ended = v_ended_j) {v_open : Int32} {v_open_j : Int} (t_v_open : mI v_open = v_open_j) {v_waits : Int32} {v_waits_j : Int} (t_v_waits : mI v_waits = v_waits_j) {v_codes : (Nat → Int32)} {v_codes_j : (Nat → Int)} (t_v_codes : mA v_codes = v_codes_j) {v_debtWord : (Nat → Int32)} {v_debtWord_j : (Nat → Int)} (t_v_debtWord : mA v_debtWord = v_debtWord_j) {v_maxWord : (Nat → Int32)} {v_maxWord_j : (Nat → Int)} (t_v_maxWord : mA v_maxWord = v_maxWord_j) {v_minWord : (Nat → Int32)} {v_minWord_j : (Nat → Int)} (t_v_minWord : mA v_minWord = v_minWord_j) {v_paidWord : (Nat → Int32)} {v_paidWord_j : (Nat → Int)} (t_v_paidWord : mA v_paidWord = v_paidWord_j) {v_penceWord : (Nat → Int32)} {v_penceWord_j : (Nat → Int)} (t_v_penceWord : mA v_penceWord = v_penceWord_j) {v_poundsWord : (Nat → Int32)} {v_poundsWord_j : (Nat → Int)} (t_v_poundsWord : mA v_poundsWord = v_poundsWord_j) {v_shillingsWord : (Nat → Int32)} {v_shillingsWord_j : (Nat → Int)} (t_v_shillingsWord : mA v_shillingsWord = v_shillingsWord_j) {v_tape : (Nat → Int32)} {v_tape_j : (Nat → Int)} (t_v_tape : mA v_tape = v_tape_j) {v_termWord : (Nat → Int32)} {v_termWord_j : (Nat → Int)} (t_v_termWord : mA v_termWord = v_termWord_j) {v_wait : (Nat → Int32)} {v_wait_j : (Nat → Int)} (t_v_wait : mA v_wait = v_wait_j) {v_yearWord : (Nat → Int32)} {v_yearWord_j : (Nat → Int)} (t_v_yearWord : mA v_yearWord = v_yearWord_j) : tl (mP mI (mP mI (mP mI (mP mI (mP mI (mP mI (mP mI (mP mA mA)))))))) (iM_part N_j v_at_j v_bad_j v_badPlace_j v_coded_j v_end_j v_ended_j v_open_j v_waits_j v_codes_j v_debtWord_j v_maxWord_j v_minWord_j v_paidWord_j v_penceWord_j v_poundsWord_j v_shillingsWord_j v_tape_j v_termWord_j v_wait_j v_yearWord_j) (pM_part N v_at v_bad v_badPlace v_coded v_end v_ended v_open v_waits v_codes v_debtWord v_maxWord v_minWord v_paidWord v_penceWord v_poundsWord v_shillingsWord v_tape v_termWord v_wait v_yearWord) := by
  subst t_N
  subst t_v_at
  subst t_v_bad
  subst t_v_badPlace
  subst t_v_coded
  subst t_v_end
  subst t_v_ended
  subst t_v_open
  subst t_v_waits
  subst t_v_codes
  subst t_v_debtWord
  subst t_v_maxWord
  subst t_v_minWord
  subst t_v_paidWord
  subst t_v_penceWord
  subst t_v_poundsWord
  subst t_v_shillingsWord
  subst t_v_tape
  subst t_v_termWord
  subst t_v_wait
  subst t_v_yearWord
  unfold iM_part pM_part
  exact (t_pM_part_b2 (Eq.refl N) (Eq.refl (mI v_end)) (Eq.refl (mA v_debtWord)) (Eq.refl (mA v_maxWord)) (Eq.refl (mA v_minWord)) (Eq.refl (mA v_paidWord)) (Eq.refl (mA v_penceWord)) (Eq.refl (mA v_poundsWord)) (Eq.refl (mA v_shillingsWord)) (Eq.refl (mA v_tape)) (Eq.refl (mA v_termWord)) (Eq.refl (mA v_yearWord)) (Eq.refl (mI v_coded)) (Eq.refl (mA v_codes)) (fun v_at_k1 v_bad_k2 v_badPlace_k3 v_ended_k4 v_open_k5 v_waits_k6 e20_ => by exact (t_pM_part_b146 (Eq.refl N) (Eq.refl (mI v_end)) (Eq.refl (mA v_debtWord)) (Eq.refl (mA v_maxWord)) (Eq.refl (mA v_minWord)) (Eq.refl (mA v_paidWord)) (Eq.refl (mA v_penceWord)) (Eq.refl (mA v_poundsWord)) (Eq.refl (mA v_shillingsWord)) (Eq.refl (mA v_tape)) (Eq.refl (mA v_termWord)) (Eq.refl (mA v_yearWord)) (Eq.refl (mI v_at_k1)) (Eq.refl (mI v_bad_k2)) (Eq.refl (mI v_badPlace_k3)) (Eq.refl (mI v_coded)) (Eq.refl (mI v_ended_k4)) (Eq.refl (mI v_open_k5)) (Eq.refl (mI v_waits_k6)) (Eq.refl (mA v_codes)) (Eq.refl (mA e20_)))) (Eq.refl N) jlitI_1 (Eq.refl (mI v_at)) (Eq.refl (mI v_bad)) (Eq.refl (mI v_badPlace)) (Eq.refl (mI v_ended)) (Eq.refl (mI v_open)) (Eq.refl (mI v_waits)) (Eq.refl (mA v_wait)))
theorem t_pM_goesOn_b112 {N N_j : Nat} (t_N : N = N_j) {v_base : Int32} {v_base_j : Int} (t_v_base : mI v_base = v_base_j) {v_end : Int32} {v_end_j : Int} (t_v_end : mI v_end = v_end_j) {v_tape : (Nat → Int32)} {v_tape_j : (Nat → Int)} (t_v_tape : mA v_tape = v_tape_j) {self : Int32 → Int32 → Int32 → Int32 → (Nat → Int32) → Option R_pM_goesOn} {self_j : Int → Int → Int → Int → (Nat → Int) → Option R_iM_goesOn} (t_self : ∀ (q0_ : Int32) (q1_ : Int32) (q2_ : Int32) (q3_ : Int32) (q4_ : (Nat → Int32)), tl (mP mI (mP mI (mP mI (mP mI (mP mI (mP mI (mP mI (mP mA mA)))))))) (self_j (mI q0_) (mI q1_) (mI q2_) (mI q3_) (mA q4_)) (self q0_ q1_ q2_ q3_ q4_)) {k118 : Int32 → Int32 → Int32 → Int32 → (Nat → Int32) → Option R_pM_goesOn} {k118_j : Int → Int → Int → Int → (Nat → Int) → Option R_iM_goesOn} (t_k118 : ∀ (q0_ : Int32) (q1_ : Int32) (q2_ : Int32) (q3_ : Int32) (q4_ : (Nat → Int32)), tl (mP mI (mP mI (mP mI (mP mI (mP mI (mP mI (mP mI (mP mA mA)))))))) (k118_j (mI q0_) (mI q1_) (mI q2_) (mI q3_) (mA q4_)) (k118 q0_ q1_ q2_ q3_ q4_)) {s1 : Int32} {s1_j : Int} (t_s1 : mI s1 = s1_j) {v_at : Int32} {v_at_j : Int} (t_v_at : mI v_at = v_at_j) {v_bad : Int32} {v_bad_j : Int} (t_v_bad : mI v_bad = v_bad_j) {v_badPlace : Int32} {v_badPlace_j : Int} (t_v_badPlace : mI v_badPlace = v_badPlace_j) {v_coded : Int32} {v_coded_j : Int} (t_v_coded : mI v_coded = v_coded_j) {v_open : Int32} {v_open_j : Int} (t_v_open : mI v_open = v_open_j) {v_waits : Int32} {v_waits_j : Int} (t_v_waits : mI v_waits = v_waits_j) {v_codes : (Nat → Int32)} {v_codes_j : (Nat → Int)} (t_v_codes : mA v_codes = v_codes_j) {v_wait : (Nat → Int32)} {v_wait_j : (Nat → Int)} (t_v_wait : mA v_wait = v_wait_j) : tl (mP mI (mP mI (mP mI (mP mI (mP mI (mP mI (mP mI (mP mA mA)))))))) (iM_goesOn_b112 N_j v_base_j v_end_j v_tape_j self_j k118_j s1_j v_at_j v_bad_j v_badPlace_j v_coded_j v_open_j v_waits_j v_codes_j v_wait_j) (pM_goesOn_b112 N v_base v_end v_tape self k118 s1 v_at v_bad v_badPlace v_coded v_open v_waits v_codes v_wait) := by
  subst t_N
  subst t_v_base
  subst t_v_end
  subst t_v_tape
  subst t_s1
  subst t_v_at
  subst t_v_bad
  subst t_v_badPlace
  subst t_v_coded
  subst t_v_open
  subst t_v_waits
  subst t_v_codes
  subst t_v_wait
  unfold iM_goesOn_b112 pM_goesOn_b112
  refine tl_bd2 (t_pM_code (Eq.refl (mI s1)) (Eq.refl (mI v_coded)) (Eq.refl (mA v_codes))) (fun v_coded_c20 v_codes_c20 => ?_)
  exact (tl_e5 (Eq.refl (mI v_at)) (Eq.refl (mI v_coded_c20)) (Eq.refl (mI v_open)) (Eq.refl (mI v_waits)) (Eq.refl (mA v_codes_c20)) (t_self _ _ _ _ _))
theorem t_pM_goesOn_b43 {N N_j : Nat} (t_N : N = N_j) {v_base : Int32} {v_base_j : Int} (t_v_base : mI v_base = v_base_j) {v_end : Int32} {v_end_j : Int} (t_v_end : mI v_end = v_end_j) {v_tape : (Nat → Int32)} {v_tape_j : (Nat → Int)} (t_v_tape : mA v_tape = v_tape_j) {self : Int32 → Int32 → Int32 → Int32 → (Nat → Int32) → Option R_pM_goesOn} {self_j : Int → Int → Int → Int → (Nat → Int) → Option R_iM_goesOn} (t_self : ∀ (q0_ : Int32) (q1_ : Int32) (q2_ : Int32) (q3_ : Int32) (q4_ : (Nat → Int32)), tl (mP mI (mP mI (mP mI (mP mI (mP mI (mP mI (mP mI (mP mA mA)))))))) (self_j (mI q0_) (mI q1_) (mI q2_) (mI q3_) (mA q4_)) (self q0_ q1_ q2_ q3_ q4_)) {k118 : Int32 → Int32 → Int32 → Int32 → (Nat → Int32) → Option R_pM_goesOn} {k118_j : Int → Int → Int → Int → (Nat → Int) → Option R_iM_goesOn} (t_k118 : ∀ (q0_ : Int32) (q1_ : Int32) (q2_ : Int32) (q3_ : Int32) (q4_ : (Nat → Int32)), tl (mP mI (mP mI (mP mI (mP mI (mP mI (mP mI (mP mI (mP mA mA)))))))) (k118_j (mI q0_) (mI q1_) (mI q2_) (mI q3_) (mA q4_)) (k118 q0_ q1_ q2_ q3_ q4_)) {v_at : Int32} {v_at_j : Int} (t_v_at : mI v_at = v_at_j) {v_bad : Int32} {v_bad_j : Int} (t_v_bad : mI v_bad = v_bad_j) {v_badPlace : Int32} {v_badPlace_j : Int} (t_v_badPlace : mI v_badPlace = v_badPlace_j) {v_coded : Int32} {v_coded_j : Int} (t_v_coded : mI v_coded = v_coded_j) {v_open : Int32} {v_open_j : Int} (t_v_open : mI v_open = v_open_j) {v_waits : Int32} {v_waits_j : Int} (t_v_waits : mI v_waits = v_waits_j) {v_codes : (Nat → Int32)} {v_codes_j : (Nat → Int)} (t_v_codes : mA v_codes = v_codes_j) {v_wait : (Nat → Int32)} {v_wait_j : (Nat → Int)} (t_v_wait : mA v_wait = v_wait_j) : tl (mP mI (mP mI (mP mI (mP mI (mP mI (mP mI (mP mI (mP mA mA)))))))) (iM_goesOn_b43 N_j v_base_j v_end_j v_tape_j self_j k118_j v_at_j v_bad_j v_badPlace_j v_coded_j v_open_j v_waits_j v_codes_j v_wait_j) (pM_goesOn_b43 N v_base v_end v_tape self k118 v_at v_bad v_badPlace v_coded v_open v_waits v_codes v_wait) := by
  subst t_N
  subst t_v_base
  subst t_v_end
  subst t_v_tape
  subst t_v_at
  subst t_v_bad
  subst t_v_badPlace
  subst t_v_coded
  subst t_v_open
  subst t_v_waits
  subst t_v_codes
  subst t_v_wait
  unfold iM_goesOn_b43 pM_goesOn_b43
  refine tl_bd3 (t_pM_dropsToMark (Eq.refl N) (Eq.refl (mI v_base)) (Eq.refl (mI v_coded)) (Eq.refl (mI v_waits)) (Eq.refl (mA v_codes)) (Eq.refl (mA v_wait))) (fun v_coded_c13 v_waits_c13 v_codes_c13 => ?_)
  refine tl_g (fun h1 => ?_)
  refine tl_gd (jg_ib (ja_sub (Eq.refl (mI v_waits_c13)) jlitI_1 h1)) (fun _ => ?_)
  refine tl_ite (jc_eq (jrd (Eq.refl (mA v_wait)) (jx (ja_sub (Eq.refl (mI v_waits_c13)) jlitI_1 h1))) jlitI_20) ?_ ?_
  · refine tl_g (fun h2 => ?_)
    refine tl_g (fun h3 => ?_)
    exact (tl_e5 (ja_add (Eq.refl (mI v_at)) jlitI_1 h2) (Eq.refl (mI v_coded_c13)) (ja_sub (Eq.refl (mI v_open)) jlitI_1 h3) (ja_sub (Eq.refl (mI v_waits_c13)) jlitI_1 h1) (Eq.refl (mA v_codes_c13)) (t_self _ _ _ _ _))
  · refine tl_ite (jc_eq (jrd (Eq.refl (mA v_wait)) (jx (ja_sub (Eq.refl (mI v_waits_c13)) jlitI_1 h1))) jlitI_23) ?_ ?_
    · refine tl_g (fun h4 => ?_)
      refine tl_g (fun h5 => ?_)
      exact (t_pM_goesOn_b112 (Eq.refl N) (Eq.refl (mI v_base)) (Eq.refl (mI v_end)) (Eq.refl (mA v_tape)) t_self t_k118 jlitI_5 (ja_add (Eq.refl (mI v_at)) jlitI_1 h4) (Eq.refl (mI v_bad)) (Eq.refl (mI v_badPlace)) (Eq.refl (mI v_coded_c13)) (ja_sub (Eq.refl (mI v_open)) jlitI_1 h5) (ja_sub (Eq.refl (mI v_waits_c13)) jlitI_1 h1) (Eq.refl (mA v_codes_c13)) (Eq.refl (mA v_wait)))
    · refine tl_g (fun h6 => ?_)
      refine tl_g (fun h7 => ?_)
      exact (t_pM_goesOn_b112 (Eq.refl N) (Eq.refl (mI v_base)) (Eq.refl (mI v_end)) (Eq.refl (mA v_tape)) t_self t_k118 jlitI_6 (ja_add (Eq.refl (mI v_at)) jlitI_1 h6) (Eq.refl (mI v_bad)) (Eq.refl (mI v_badPlace)) (Eq.refl (mI v_coded_c13)) (ja_sub (Eq.refl (mI v_open)) jlitI_1 h7) (ja_sub (Eq.refl (mI v_waits_c13)) jlitI_1 h1) (Eq.refl (mA v_codes_c13)) (Eq.refl (mA v_wait)))
theorem t_pM_goesOn_b0_F {N N_j : Nat} (t_N : N = N_j) {v_base : Int32} {v_base_j : Int} (t_v_base : mI v_base = v_base_j) {v_end : Int32} {v_end_j : Int} (t_v_end : mI v_end = v_end_j) {v_tape : (Nat → Int32)} {v_tape_j : (Nat → Int)} (t_v_tape : mA v_tape = v_tape_j) {v_bad : Int32} {v_bad_j : Int} (t_v_bad : mI v_bad = v_bad_j) {v_badPlace : Int32} {v_badPlace_j : Int} (t_v_badPlace : mI v_badPlace = v_badPlace_j) {v_wait : (Nat → Int32)} {v_wait_j : (Nat → Int)} (t_v_wait : mA v_wait = v_wait_j) {k118 : Int32 → Int32 → Int32 → Int32 → (Nat → Int32) → Option R_pM_goesOn} {k118_j : Int → Int → Int → Int → (Nat → Int) → Option R_iM_goesOn} (t_k118 : ∀ (q0_ : Int32) (q1_ : Int32) (q2_ : Int32) (q3_ : Int32) (q4_ : (Nat → Int32)), tl (mP mI (mP mI (mP mI (mP mI (mP mI (mP mI (mP mI (mP mA mA)))))))) (k118_j (mI q0_) (mI q1_) (mI q2_) (mI q3_) (mA q4_)) (k118 q0_ q1_ q2_ q3_ q4_)) {self : Int32 → Int32 → Int32 → Int32 → (Nat → Int32) → Option R_pM_goesOn} {self_j : Int → Int → Int → Int → (Nat → Int) → Option R_iM_goesOn} (t_self : ∀ (q0_ : Int32) (q1_ : Int32) (q2_ : Int32) (q3_ : Int32) (q4_ : (Nat → Int32)), tl (mP mI (mP mI (mP mI (mP mI (mP mI (mP mI (mP mI (mP mA mA)))))))) (self_j (mI q0_) (mI q1_) (mI q2_) (mI q3_) (mA q4_)) (self q0_ q1_ q2_ q3_ q4_)) {v_at : Int32} {v_at_j : Int} (t_v_at : mI v_at = v_at_j) {v_coded : Int32} {v_coded_j : Int} (t_v_coded : mI v_coded = v_coded_j) {v_open : Int32} {v_open_j : Int} (t_v_open : mI v_open = v_open_j) {v_waits : Int32} {v_waits_j : Int} (t_v_waits : mI v_waits = v_waits_j) {v_codes : (Nat → Int32)} {v_codes_j : (Nat → Int)} (t_v_codes : mA v_codes = v_codes_j) : tl (mP mI (mP mI (mP mI (mP mI (mP mI (mP mI (mP mI (mP mA mA)))))))) (iM_goesOn_b0_F N_j v_base_j v_end_j v_tape_j v_bad_j v_badPlace_j v_wait_j k118_j self_j v_at_j v_coded_j v_open_j v_waits_j v_codes_j) (pM_goesOn_b0_F N v_base v_end v_tape v_bad v_badPlace v_wait k118 self v_at v_coded v_open v_waits v_codes) := by
  subst t_N
  subst t_v_base
  subst t_v_end
  subst t_v_tape
  subst t_v_bad
  subst t_v_badPlace
  subst t_v_wait
  subst t_v_at
  subst t_v_coded
  subst t_v_open
  subst t_v_waits
  subst t_v_codes
  unfold iM_goesOn_b0_F pM_goesOn_b0_F
  refine tl_ite (jc_eq (Eq.refl (mI v_bad)) jlitI_0) ?_ ?_
  · refine tl_bd2 (t_pM_look (Eq.refl N) (Eq.refl (mI v_at)) (Eq.refl (mI v_end)) (Eq.refl (mA v_tape))) (fun rc1 v_at_c1 => ?_)
    refine tl_ite (jc_eq (Eq.refl (mI rc1)) jlitI_41) ?_ ?_
    · refine tl_bd1 (t_pM_mark (Eq.refl N) (Eq.refl (mI v_base)) (Eq.refl (mI v_waits)) (Eq.refl (mA v_wait))) (fun rc2 => ?_)
      refine tl_ite (jc_eq (Eq.refl (mI rc2)) jlitI_20) ?_ ?_
      · exact (t_pM_goesOn_b43 (Eq.refl N) (Eq.refl (mI v_base)) (Eq.refl (mI v_end)) (Eq.refl (mA v_tape)) t_self t_k118 (Eq.refl (mI v_at_c1)) (Eq.refl (mI v_bad)) (Eq.refl (mI v_badPlace)) (Eq.refl (mI v_coded)) (Eq.refl (mI v_open)) (Eq.refl (mI v_waits)) (Eq.refl (mA v_codes)) (Eq.refl (mA v_wait)))
      · refine tl_bd1 (t_pM_mark (Eq.refl N) (Eq.refl (mI v_base)) (Eq.refl (mI v_waits)) (Eq.refl (mA v_wait))) (fun rc3 => ?_)
        refine tl_ite (jc_eq (Eq.refl (mI rc3)) jlitI_23) ?_ ?_
        · exact (t_pM_goesOn_b43 (Eq.refl N) (Eq.refl (mI v_base)) (Eq.refl (mI v_end)) (Eq.refl (mA v_tape)) t_self t_k118 (Eq.refl (mI v_at_c1)) (Eq.refl (mI v_bad)) (Eq.refl (mI v_badPlace)) (Eq.refl (mI v_coded)) (Eq.refl (mI v_open)) (Eq.refl (mI v_waits)) (Eq.refl (mA v_codes)) (Eq.refl (mA v_wait)))
        · refine tl_bd1 (t_pM_mark (Eq.refl N) (Eq.refl (mI v_base)) (Eq.refl (mI v_waits)) (Eq.refl (mA v_wait))) (fun rc4 => ?_)
          refine tl_ite (jc_eq (Eq.refl (mI rc4)) jlitI_24) ?_ ?_
          · exact (t_pM_goesOn_b43 (Eq.refl N) (Eq.refl (mI v_base)) (Eq.refl (mI v_end)) (Eq.refl (mA v_tape)) t_self t_k118 (Eq.refl (mI v_at_c1)) (Eq.refl (mI v_bad)) (Eq.refl (mI v_badPlace)) (Eq.refl (mI v_coded)) (Eq.refl (mI v_open)) (Eq.refl (mI v_waits)) (Eq.refl (mA v_codes)) (Eq.refl (mA v_wait)))
          · exact (tl_e5 (Eq.refl (mI v_at_c1)) (Eq.refl (mI v_coded)) (Eq.refl (mI v_open)) (Eq.refl (mI v_waits)) (Eq.refl (mA v_codes)) (t_k118 _ _ _ _ _))
    · exact (tl_e5 (Eq.refl (mI v_at_c1)) (Eq.refl (mI v_coded)) (Eq.refl (mI v_open)) (Eq.refl (mI v_waits)) (Eq.refl (mA v_codes)) (t_k118 _ _ _ _ _))
  · exact (tl_e5 (Eq.refl (mI v_at)) (Eq.refl (mI v_coded)) (Eq.refl (mI v_open)) (Eq.refl (mI v_waits)) (Eq.refl (mA v_codes)) (t_k118 _ _ _ _ _))
theorem t_pM_goesOn_b0 {N N_j : Nat} (t_N : N = N_j) {v_base : Int32} {v_base_j : Int} (t_v_base : mI v_base = v_base_j) {v_end : Int32} {v_end_j : Int} (t_v_end : mI v_end = v_end_j) {v_tape : (Nat → Int32)} {v_tape_j : (Nat → Int)} (t_v_tape : mA v_tape = v_tape_j) {v_bad : Int32} {v_bad_j : Int} (t_v_bad : mI v_bad = v_bad_j) {v_badPlace : Int32} {v_badPlace_j : Int} (t_v_badPlace : mI v_badPlace = v_badPlace_j) {v_wait : (Nat → Int32)} {v_wait_j : (Nat → Int)} (t_v_wait : mA v_wait = v_wait_j) {k118 : Int32 → Int32 → Int32 → Int32 → (Nat → Int32) → Option R_pM_goesOn} {k118_j : Int → Int → Int → Int → (Nat → Int) → Option R_iM_goesOn} (t_k118 : ∀ (q0_ : Int32) (q1_ : Int32) (q2_ : Int32) (q3_ : Int32) (q4_ : (Nat → Int32)), tl (mP mI (mP mI (mP mI (mP mI (mP mI (mP mI (mP mI (mP mA mA)))))))) (k118_j (mI q0_) (mI q1_) (mI q2_) (mI q3_) (mA q4_)) (k118 q0_ q1_ q2_ q3_ q4_)) {n n_j : Nat} (t_n : n = n_j) {w0_ : Int32} {w0__j : Int} (t_w0_ : mI w0_ = w0__j) {w1_ : Int32} {w1__j : Int} (t_w1_ : mI w1_ = w1__j) {w2_ : Int32} {w2__j : Int} (t_w2_ : mI w2_ = w2__j) {w3_ : Int32} {w3__j : Int} (t_w3_ : mI w3_ = w3__j) {w4_ : (Nat → Int32)} {w4__j : (Nat → Int)} (t_w4_ : mA w4_ = w4__j) : tl (mP mI (mP mI (mP mI (mP mI (mP mI (mP mI (mP mI (mP mA mA)))))))) (iM_goesOn_b0 N_j v_base_j v_end_j v_tape_j v_bad_j v_badPlace_j v_wait_j k118_j n_j w0__j w1__j w2__j w3__j w4__j) (pM_goesOn_b0 N v_base v_end v_tape v_bad v_badPlace v_wait k118 n w0_ w1_ w2_ w3_ w4_) := by
  subst t_N
  subst t_v_base
  subst t_v_end
  subst t_v_tape
  subst t_v_bad
  subst t_v_badPlace
  subst t_v_wait
  subst t_n
  subst t_w0_
  subst t_w1_
  subst t_w2_
  subst t_w3_
  subst t_w4_
  exact tl_zlp5 (fun s2 s hs w0_ w1_ w2_ w3_ w4_ => t_pM_goesOn_b0_F (Eq.refl N) (Eq.refl (mI v_base)) (Eq.refl (mI v_end)) (Eq.refl (mA v_tape)) (Eq.refl (mI v_bad)) (Eq.refl (mI v_badPlace)) (Eq.refl (mA v_wait)) t_k118 hs (Eq.refl (mI w0_)) (Eq.refl (mI w1_)) (Eq.refl (mI w2_)) (Eq.refl (mI w3_)) (Eq.refl (mA w4_))) n w0_ w1_ w2_ w3_ w4_
theorem t_pM_goesOn_b322 {N N_j : Nat} (t_N : N = N_j) {v_base : Int32} {v_base_j : Int} (t_v_base : mI v_base = v_base_j) {v_end : Int32} {v_end_j : Int} (t_v_end : mI v_end = v_end_j) {v_tape : (Nat → Int32)} {v_tape_j : (Nat → Int)} (t_v_tape : mA v_tape = v_tape_j) {v_at : Int32} {v_at_j : Int} (t_v_at : mI v_at = v_at_j) {v_bad : Int32} {v_bad_j : Int} (t_v_bad : mI v_bad = v_bad_j) {v_badPlace : Int32} {v_badPlace_j : Int} (t_v_badPlace : mI v_badPlace = v_badPlace_j) {v_coded : Int32} {v_coded_j : Int} (t_v_coded : mI v_coded = v_coded_j) {v_open : Int32} {v_open_j : Int} (t_v_open : mI v_open = v_open_j) {v_waits : Int32} {v_waits_j : Int} (t_v_waits : mI v_waits = v_waits_j) {v_codes : (Nat → Int32)} {v_codes_j : (Nat → Int)} (t_v_codes : mA v_codes = v_codes_j) {v_wait : (Nat → Int32)} {v_wait_j : (Nat → Int)} (t_v_wait : mA v_wait = v_wait_j) : tl (mP mI (mP mI (mP mI (mP mI (mP mI (mP mI (mP mI (mP mA mA)))))))) (iM_goesOn_b322 N_j v_base_j v_end_j v_tape_j v_at_j v_bad_j v_badPlace_j v_coded_j v_open_j v_waits_j v_codes_j v_wait_j) (pM_goesOn_b322 N v_base v_end v_tape v_at v_bad v_badPlace v_coded v_open v_waits v_codes v_wait) := by
  subst t_N
  subst t_v_base
  subst t_v_end
  subst t_v_tape
  subst t_v_at
  subst t_v_bad
  subst t_v_badPlace
  subst t_v_coded
  subst t_v_open
  subst t_v_waits
  subst t_v_codes
  subst t_v_wait
  unfold iM_goesOn_b322 pM_goesOn_b322
  refine tl_bd3 (t_pM_asksSign (Eq.refl N) jlitI_44 (Eq.refl (mI v_at)) (Eq.refl (mI v_bad)) (Eq.refl (mI v_badPlace)) (Eq.refl (mI v_end)) (Eq.refl (mA v_tape))) (fun v_at_c17 v_bad_c17 v_badPlace_c17 => ?_)
  refine tl_ite (jc_eq (Eq.refl (mI v_bad_c17)) jlitI_0) ?_ ?_
  · refine tl_bd3 (t_pM_dropsToMark (Eq.refl N) (Eq.refl (mI v_base)) (Eq.refl (mI v_coded)) (Eq.refl (mI v_waits)) (Eq.refl (mA v_codes)) (Eq.refl (mA v_wait))) (fun v_coded_c18 v_waits_c18 v_codes_c18 => ?_)
    refine tl_g (fun h1 => ?_)
    refine tl_gd (jg_ib (ja_sub (Eq.refl (mI v_waits_c18)) jlitI_1 h1)) (fun _ => ?_)
    refine tl_g (fun h2 => ?_)
    exact (tl_some (jp2 jlitI_1 (jp2 (Eq.refl (mI v_at_c17)) (jp2 (Eq.refl (mI v_bad_c17)) (jp2 (Eq.refl (mI v_badPlace_c17)) (jp2 (Eq.refl (mI v_coded_c18)) (jp2 (Eq.refl (mI v_open)) (jp2 (Eq.refl (mI v_waits_c18)) (jp2 (Eq.refl (mA v_codes_c18)) (jupA (Eq.refl (mA v_wait)) (jx (ja_sub (Eq.refl (mI v_waits_c18)) jlitI_1 h1)) (ja_add (jrd (Eq.refl (mA v_wait)) (jx (ja_sub (Eq.refl (mI v_waits_c18)) jlitI_1 h1))) jlitI_2 h2)))))))))))
  · exact (tl_some (jp2 jlitI_0 (jp2 (Eq.refl (mI v_at_c17)) (jp2 (Eq.refl (mI v_bad_c17)) (jp2 (Eq.refl (mI v_badPlace_c17)) (jp2 (Eq.refl (mI v_coded)) (jp2 (Eq.refl (mI v_open)) (jp2 (Eq.refl (mI v_waits)) (jp2 (Eq.refl (mA v_codes)) (Eq.refl (mA v_wait)))))))))))
theorem t_pM_goesOn_b275 {N N_j : Nat} (t_N : N = N_j) {v_base : Int32} {v_base_j : Int} (t_v_base : mI v_base = v_base_j) {v_end : Int32} {v_end_j : Int} (t_v_end : mI v_end = v_end_j) {v_tape : (Nat → Int32)} {v_tape_j : (Nat → Int)} (t_v_tape : mA v_tape = v_tape_j) {self : Int32 → Int32 → (Nat → Int32) → Option R_pM_goesOn} {self_j : Int → Int → (Nat → Int) → Option R_iM_goesOn} (t_self : ∀ (q0_ : Int32) (q1_ : Int32) (q2_ : (Nat → Int32)), tl (mP mI (mP mI (mP mI (mP mI (mP mI (mP mI (mP mI (mP mA mA)))))))) (self_j (mI q0_) (mI q1_) (mA q2_)) (self q0_ q1_ q2_)) {x1 : Int32} {x1_j : Int} (t_x1 : mI x1 = x1_j) {v_at : Int32} {v_at_j : Int} (t_v_at : mI v_at = v_at_j) {v_bad : Int32} {v_bad_j : Int} (t_v_bad : mI v_bad = v_bad_j) {v_badPlace : Int32} {v_badPlace_j : Int} (t_v_badPlace : mI v_badPlace = v_badPlace_j) {v_coded : Int32} {v_coded_j : Int} (t_v_coded : mI v_coded = v_coded_j) {v_open : Int32} {v_open_j : Int} (t_v_open : mI v_open = v_open_j) {v_waits : Int32} {v_waits_j : Int} (t_v_waits : mI v_waits = v_waits_j) {v_codes : (Nat → Int32)} {v_codes_j : (Nat → Int)} (t_v_codes : mA v_codes = v_codes_j) {v_wait : (Nat → Int32)} {v_wait_j : (Nat → Int)} (t_v_wait : mA v_wait = v_wait_j) : tl (mP mI (mP mI (mP mI (mP mI (mP mI (mP mI (mP mI (mP mA mA)))))))) (iM_goesOn_b275 N_j v_base_j v_end_j v_tape_j self_j x1_j v_at_j v_bad_j v_badPlace_j v_coded_j v_open_j v_waits_j v_codes_j v_wait_j) (pM_goesOn_b275 N v_base v_end v_tape self x1 v_at v_bad v_badPlace v_coded v_open v_waits v_codes v_wait) := by
  subst t_N
  subst t_v_base
  subst t_v_end
  subst t_v_tape
  subst t_x1
  subst t_v_at
  subst t_v_bad
  subst t_v_badPlace
  subst t_v_coded
  subst t_v_open
  subst t_v_waits
  subst t_v_codes
  subst t_v_wait
  unfold iM_goesOn_b275 pM_goesOn_b275
  refine tl_bd3 (t_pM_drops (Eq.refl (mI v_coded)) (Eq.refl (mI v_waits)) (Eq.refl (mA v_codes)) (Eq.refl (mA v_wait))) (fun v_coded_c30 v_waits_c30 v_codes_c30 => ?_)
  exact (tl_e3 (Eq.refl (mI v_coded_c30)) (Eq.refl (mI v_waits_c30)) (Eq.refl (mA v_codes_c30)) (t_self _ _ _))
theorem t_pM_goesOn_b243_F {N N_j : Nat} (t_N : N = N_j) {v_base : Int32} {v_base_j : Int} (t_v_base : mI v_base = v_base_j) {v_end : Int32} {v_end_j : Int} (t_v_end : mI v_end = v_end_j) {v_tape : (Nat → Int32)} {v_tape_j : (Nat → Int)} (t_v_tape : mA v_tape = v_tape_j) {x1 : Int32} {x1_j : Int} (t_x1 : mI x1 = x1_j) {v_at : Int32} {v_at_j : Int} (t_v_at : mI v_at = v_at_j) {v_bad : Int32} {v_bad_j : Int} (t_v_bad : mI v_bad = v_bad_j) {v_badPlace : Int32} {v_badPlace_j : Int} (t_v_badPlace : mI v_badPlace = v_badPlace_j) {v_open : Int32} {v_open_j : Int} (t_v_open : mI v_open = v_open_j) {v_wait : (Nat → Int32)} {v_wait_j : (Nat → Int)} (t_v_wait : mA v_wait = v_wait_j) {self : Int32 → Int32 → (Nat → Int32) → Option R_pM_goesOn} {self_j : Int → Int → (Nat → Int) → Option R_iM_goesOn} (t_self : ∀ (q0_ : Int32) (q1_ : Int32) (q2_ : (Nat → Int32)), tl (mP mI (mP mI (mP mI (mP mI (mP mI (mP mI (mP mI (mP mA mA)))))))) (self_j (mI q0_) (mI q1_) (mA q2_)) (self q0_ q1_ q2_)) {v_coded : Int32} {v_coded_j : Int} (t_v_coded : mI v_coded = v_coded_j) {v_waits : Int32} {v_waits_j : Int} (t_v_waits : mI v_waits = v_waits_j) {v_codes : (Nat → Int32)} {v_codes_j : (Nat → Int)} (t_v_codes : mA v_codes = v_codes_j) : tl (mP mI (mP mI (mP mI (mP mI (mP mI (mP mI (mP mI (mP mA mA)))))))) (iM_goesOn_b243_F N_j v_base_j v_end_j v_tape_j x1_j v_at_j v_bad_j v_badPlace_j v_open_j v_wait_j self_j v_coded_j v_waits_j v_codes_j) (pM_goesOn_b243_F N v_base v_end v_tape x1 v_at v_bad v_badPlace v_open v_wait self v_coded v_waits v_codes) := by
  subst t_N
  subst t_v_base
  subst t_v_end
  subst t_v_tape
  subst t_x1
  subst t_v_at
  subst t_v_bad
  subst t_v_badPlace
  subst t_v_open
  subst t_v_wait
  subst t_v_coded
  subst t_v_waits
  subst t_v_codes
  unfold iM_goesOn_b243_F pM_goesOn_b243_F
  refine tl_bd1 (t_pM_isOn jlitI_3 (Eq.refl (mI v_waits)) (Eq.refl (mA v_wait))) (fun rc24 => ?_)
  refine tl_ite (jc_eq (Eq.refl (mI rc24)) jlitI_0) ?_ ?_
  · refine tl_bd1 (t_pM_isOn jlitI_4 (Eq.refl (mI v_waits)) (Eq.refl (mA v_wait))) (fun rc25 => ?_)
    refine tl_ite (jc_eq (Eq.refl (mI rc25)) jlitI_0) ?_ ?_
    · refine tl_bd1 (t_pM_isOn jlitI_1 (Eq.refl (mI v_waits)) (Eq.refl (mA v_wait))) (fun rc26 => ?_)
      refine tl_ite (jc_eq (Eq.refl (mI rc26)) jlitI_0) ?_ ?_
      · refine tl_bd1 (t_pM_isOn jlitI_2 (Eq.refl (mI v_waits)) (Eq.refl (mA v_wait))) (fun rc27 => ?_)
        refine tl_ite (jc_eq (Eq.refl (mI rc27)) jlitI_0) ?_ ?_
        · refine tl_gd (jg_ib (Eq.refl (mI v_waits))) (fun _ => ?_)
          refine tl_g (fun h1 => ?_)
          exact (tl_some (jp2 jlitI_1 (jp2 (Eq.refl (mI v_at)) (jp2 (Eq.refl (mI v_bad)) (jp2 (Eq.refl (mI v_badPlace)) (jp2 (Eq.refl (mI v_coded)) (jp2 (Eq.refl (mI v_open)) (jp2 (ja_add (Eq.refl (mI v_waits)) jlitI_1 h1) (jp2 (Eq.refl (mA v_codes)) (jupA (Eq.refl (mA v_wait)) (jx (Eq.refl (mI v_waits))) (Eq.refl (mI x1))))))))))))
        · exact (t_pM_goesOn_b275 (Eq.refl N) (Eq.refl (mI v_base)) (Eq.refl (mI v_end)) (Eq.refl (mA v_tape)) t_self (Eq.refl (mI x1)) (Eq.refl (mI v_at)) (Eq.refl (mI v_bad)) (Eq.refl (mI v_badPlace)) (Eq.refl (mI v_coded)) (Eq.refl (mI v_open)) (Eq.refl (mI v_waits)) (Eq.refl (mA v_codes)) (Eq.refl (mA v_wait)))
      · exact (t_pM_goesOn_b275 (Eq.refl N) (Eq.refl (mI v_base)) (Eq.refl (mI v_end)) (Eq.refl (mA v_tape)) t_self (Eq.refl (mI x1)) (Eq.refl (mI v_at)) (Eq.refl (mI v_bad)) (Eq.refl (mI v_badPlace)) (Eq.refl (mI v_coded)) (Eq.refl (mI v_open)) (Eq.refl (mI v_waits)) (Eq.refl (mA v_codes)) (Eq.refl (mA v_wait)))
    · exact (t_pM_goesOn_b275 (Eq.refl N) (Eq.refl (mI v_base)) (Eq.refl (mI v_end)) (Eq.refl (mA v_tape)) t_self (Eq.refl (mI x1)) (Eq.refl (mI v_at)) (Eq.refl (mI v_bad)) (Eq.refl (mI v_badPlace)) (Eq.refl (mI v_coded)) (Eq.refl (mI v_open)) (Eq.refl (mI v_waits)) (Eq.refl (mA v_codes)) (Eq.refl (mA v_wait)))
  · exact (t_pM_goesOn_b275 (Eq.refl N) (Eq.refl (mI v_base)) (Eq.refl (mI v_end)) (Eq.refl (mA v_tape)) t_self (Eq.refl (mI x1)) (Eq.refl (mI v_at)) (Eq.refl (mI v_bad)) (Eq.refl (mI v_badPlace)) (Eq.refl (mI v_coded)) (Eq.refl (mI v_open)) (Eq.refl (mI v_waits)) (Eq.refl (mA v_codes)) (Eq.refl (mA v_wait)))
theorem t_pM_goesOn_b243 {N N_j : Nat} (t_N : N = N_j) {v_base : Int32} {v_base_j : Int} (t_v_base : mI v_base = v_base_j) {v_end : Int32} {v_end_j : Int} (t_v_end : mI v_end = v_end_j) {v_tape : (Nat → Int32)} {v_tape_j : (Nat → Int)} (t_v_tape : mA v_tape = v_tape_j) {x1 : Int32} {x1_j : Int} (t_x1 : mI x1 = x1_j) {v_at : Int32} {v_at_j : Int} (t_v_at : mI v_at = v_at_j) {v_bad : Int32} {v_bad_j : Int} (t_v_bad : mI v_bad = v_bad_j) {v_badPlace : Int32} {v_badPlace_j : Int} (t_v_badPlace : mI v_badPlace = v_badPlace_j) {v_open : Int32} {v_open_j : Int} (t_v_open : mI v_open = v_open_j) {v_wait : (Nat → Int32)} {v_wait_j : (Nat → Int)} (t_v_wait : mA v_wait = v_wait_j) {n n_j : Nat} (t_n : n = n_j) {w0_ : Int32} {w0__j : Int} (t_w0_ : mI w0_ = w0__j) {w1_ : Int32} {w1__j : Int} (t_w1_ : mI w1_ = w1__j) {w2_ : (Nat → Int32)} {w2__j : (Nat → Int)} (t_w2_ : mA w2_ = w2__j) : tl (mP mI (mP mI (mP mI (mP mI (mP mI (mP mI (mP mI (mP mA mA)))))))) (iM_goesOn_b243 N_j v_base_j v_end_j v_tape_j x1_j v_at_j v_bad_j v_badPlace_j v_open_j v_wait_j n_j w0__j w1__j w2__j) (pM_goesOn_b243 N v_base v_end v_tape x1 v_at v_bad v_badPlace v_open v_wait n w0_ w1_ w2_) := by
  subst t_N
  subst t_v_base
  subst t_v_end
  subst t_v_tape
  subst t_x1
  subst t_v_at
  subst t_v_bad
  subst t_v_badPlace
  subst t_v_open
  subst t_v_wait
  subst t_n
  subst t_w0_
  subst t_w1_
  subst t_w2_
  exact tl_zlp3 (fun s2 s hs w0_ w1_ w2_ => t_pM_goesOn_b243_F (Eq.refl N) (Eq.refl (mI v_base)) (Eq.refl (mI v_end)) (Eq.refl (mA v_tape)) (Eq.refl (mI x1)) (Eq.refl (mI v_at)) (Eq.refl (mI v_bad)) (Eq.refl (mI v_badPlace)) (Eq.refl (mI v_open)) (Eq.refl (mA v_wait)) hs (Eq.refl (mI w0_)) (Eq.refl (mI w1_)) (Eq.refl (mA w2_))) n w0_ w1_ w2_
theorem t_pM_goesOn_b221 {N N_j : Nat} (t_N : N = N_j) {v_base : Int32} {v_base_j : Int} (t_v_base : mI v_base = v_base_j) {v_end : Int32} {v_end_j : Int} (t_v_end : mI v_end = v_end_j) {v_tape : (Nat → Int32)} {v_tape_j : (Nat → Int)} (t_v_tape : mA v_tape = v_tape_j) {v_at : Int32} {v_at_j : Int} (t_v_at : mI v_at = v_at_j) {v_bad : Int32} {v_bad_j : Int} (t_v_bad : mI v_bad = v_bad_j) {v_badPlace : Int32} {v_badPlace_j : Int} (t_v_badPlace : mI v_badPlace = v_badPlace_j) {v_coded : Int32} {v_coded_j : Int} (t_v_coded : mI v_coded = v_coded_j) {v_open : Int32} {v_open_j : Int} (t_v_open : mI v_open = v_open_j) {v_waits : Int32} {v_waits_j : Int} (t_v_waits : mI v_waits = v_waits_j) {v_codes : (Nat → Int32)} {v_codes_j : (Nat → Int)} (t_v_codes : mA v_codes = v_codes_j) {v_wait : (Nat → Int32)} {v_wait_j : (Nat → Int)} (t_v_wait : mA v_wait = v_wait_j) : tl (mP mI (mP mI (mP mI (mP mI (mP mI (mP mI (mP mI (mP mA mA)))))))) (iM_goesOn_b221 N_j v_base_j v_end_j v_tape_j v_at_j v_bad_j v_badPlace_j v_coded_j v_open_j v_waits_j v_codes_j v_wait_j) (pM_goesOn_b221 N v_base v_end v_tape v_at v_bad v_badPlace v_coded v_open v_waits v_codes v_wait) := by
  subst t_N
  subst t_v_base
  subst t_v_end
  subst t_v_tape
  subst t_v_at
  subst t_v_bad
  subst t_v_badPlace
  subst t_v_coded
  subst t_v_open
  subst t_v_waits
  subst t_v_codes
  subst t_v_wait
  unfold iM_goesOn_b221 pM_goesOn_b221
  refine tl_g (fun h1 => ?_)
  refine tl_gd (jg_ib (ja_sub (Eq.refl (mI v_at)) jlitI_1 h1)) (fun _ => ?_)
  refine tl_ite (jc_eq (jrd (Eq.refl (mA v_tape)) (jx (ja_sub (Eq.refl (mI v_at)) jlitI_1 h1))) jlitI_43) ?_ ?_
  · exact (t_pM_goesOn_b243 (Eq.refl N) (Eq.refl (mI v_base)) (Eq.refl (mI v_end)) (Eq.refl (mA v_tape)) jlitI_1 (Eq.refl (mI v_at)) (Eq.refl (mI v_bad)) (Eq.refl (mI v_badPlace)) (Eq.refl (mI v_open)) (Eq.refl (mA v_wait)) (Eq.refl N) (Eq.refl (mI v_coded)) (Eq.refl (mI v_waits)) (Eq.refl (mA v_codes)))
  · exact (t_pM_goesOn_b243 (Eq.refl N) (Eq.refl (mI v_base)) (Eq.refl (mI v_end)) (Eq.refl (mA v_tape)) jlitI_2 (Eq.refl (mI v_at)) (Eq.refl (mI v_bad)) (Eq.refl (mI v_badPlace)) (Eq.refl (mI v_open)) (Eq.refl (mA v_wait)) (Eq.refl N) (Eq.refl (mI v_coded)) (Eq.refl (mI v_waits)) (Eq.refl (mA v_codes)))
theorem t_pM_goesOn_b174 {N N_j : Nat} (t_N : N = N_j) {v_base : Int32} {v_base_j : Int} (t_v_base : mI v_base = v_base_j) {v_end : Int32} {v_end_j : Int} (t_v_end : mI v_end = v_end_j) {v_tape : (Nat → Int32)} {v_tape_j : (Nat → Int)} (t_v_tape : mA v_tape = v_tape_j) {self : Int32 → Int32 → (Nat → Int32) → Option R_pM_goesOn} {self_j : Int → Int → (Nat → Int) → Option R_iM_goesOn} (t_self : ∀ (q0_ : Int32) (q1_ : Int32) (q2_ : (Nat → Int32)), tl (mP mI (mP mI (mP mI (mP mI (mP mI (mP mI (mP mI (mP mA mA)))))))) (self_j (mI q0_) (mI q1_) (mA q2_)) (self q0_ q1_ q2_)) {x1 : Int32} {x1_j : Int} (t_x1 : mI x1 = x1_j) {v_at : Int32} {v_at_j : Int} (t_v_at : mI v_at = v_at_j) {v_bad : Int32} {v_bad_j : Int} (t_v_bad : mI v_bad = v_bad_j) {v_badPlace : Int32} {v_badPlace_j : Int} (t_v_badPlace : mI v_badPlace = v_badPlace_j) {v_coded : Int32} {v_coded_j : Int} (t_v_coded : mI v_coded = v_coded_j) {v_open : Int32} {v_open_j : Int} (t_v_open : mI v_open = v_open_j) {v_waits : Int32} {v_waits_j : Int} (t_v_waits : mI v_waits = v_waits_j) {v_codes : (Nat → Int32)} {v_codes_j : (Nat → Int)} (t_v_codes : mA v_codes = v_codes_j) {v_wait : (Nat → Int32)} {v_wait_j : (Nat → Int)} (t_v_wait : mA v_wait = v_wait_j) : tl (mP mI (mP mI (mP mI (mP mI (mP mI (mP mI (mP mI (mP mA mA)))))))) (iM_goesOn_b174 N_j v_base_j v_end_j v_tape_j self_j x1_j v_at_j v_bad_j v_badPlace_j v_coded_j v_open_j v_waits_j v_codes_j v_wait_j) (pM_goesOn_b174 N v_base v_end v_tape self x1 v_at v_bad v_badPlace v_coded v_open v_waits v_codes v_wait) := by
  subst t_N
  subst t_v_base
  subst t_v_end
  subst t_v_tape
  subst t_x1
  subst t_v_at
  subst t_v_bad
  subst t_v_badPlace
  subst t_v_coded
  subst t_v_open
  subst t_v_waits
  subst t_v_codes
  subst t_v_wait
  unfold iM_goesOn_b174 pM_goesOn_b174
  refine tl_bd3 (t_pM_drops (Eq.refl (mI v_coded)) (Eq.refl (mI v_waits)) (Eq.refl (mA v_codes)) (Eq.refl (mA v_wait))) (fun v_coded_c29 v_waits_c29 v_codes_c29 => ?_)
  exact (tl_e3 (Eq.refl (mI v_coded_c29)) (Eq.refl (mI v_waits_c29)) (Eq.refl (mA v_codes_c29)) (t_self _ _ _))
theorem t_pM_goesOn_b158_F {N N_j : Nat} (t_N : N = N_j) {v_base : Int32} {v_base_j : Int} (t_v_base : mI v_base = v_base_j) {v_end : Int32} {v_end_j : Int} (t_v_end : mI v_end = v_end_j) {v_tape : (Nat → Int32)} {v_tape_j : (Nat → Int)} (t_v_tape : mA v_tape = v_tape_j) {x1 : Int32} {x1_j : Int} (t_x1 : mI x1 = x1_j) {v_at : Int32} {v_at_j : Int} (t_v_at : mI v_at = v_at_j) {v_bad : Int32} {v_bad_j : Int} (t_v_bad : mI v_bad = v_bad_j) {v_badPlace : Int32} {v_badPlace_j : Int} (t_v_badPlace : mI v_badPlace = v_badPlace_j) {v_open : Int32} {v_open_j : Int} (t_v_open : mI v_open = v_open_j) {v_wait : (Nat → Int32)} {v_wait_j : (Nat → Int)} (t_v_wait : mA v_wait = v_wait_j) {self : Int32 → Int32 → (Nat → Int32) → Option R_pM_goesOn} {self_j : Int → Int → (Nat → Int) → Option R_iM_goesOn} (t_self : ∀ (q0_ : Int32) (q1_ : Int32) (q2_ : (Nat → Int32)), tl (mP mI (mP mI (mP mI (mP mI (mP mI (mP mI (mP mI (mP mA mA)))))))) (self_j (mI q0_) (mI q1_) (mA q2_)) (self q0_ q1_ q2_)) {v_coded : Int32} {v_coded_j : Int} (t_v_coded : mI v_coded = v_coded_j) {v_waits : Int32} {v_waits_j : Int} (t_v_waits : mI v_waits = v_waits_j) {v_codes : (Nat → Int32)} {v_codes_j : (Nat → Int)} (t_v_codes : mA v_codes = v_codes_j) : tl (mP mI (mP mI (mP mI (mP mI (mP mI (mP mI (mP mI (mP mA mA)))))))) (iM_goesOn_b158_F N_j v_base_j v_end_j v_tape_j x1_j v_at_j v_bad_j v_badPlace_j v_open_j v_wait_j self_j v_coded_j v_waits_j v_codes_j) (pM_goesOn_b158_F N v_base v_end v_tape x1 v_at v_bad v_badPlace v_open v_wait self v_coded v_waits v_codes) := by
  subst t_N
  subst t_v_base
  subst t_v_end
  subst t_v_tape
  subst t_x1
  subst t_v_at
  subst t_v_bad
  subst t_v_badPlace
  subst t_v_open
  subst t_v_wait
  subst t_v_coded
  subst t_v_waits
  subst t_v_codes
  unfold iM_goesOn_b158_F pM_goesOn_b158_F
  refine tl_bd1 (t_pM_isOn jlitI_3 (Eq.refl (mI v_waits)) (Eq.refl (mA v_wait))) (fun rc21 => ?_)
  refine tl_ite (jc_eq (Eq.refl (mI rc21)) jlitI_0) ?_ ?_
  · refine tl_bd1 (t_pM_isOn jlitI_4 (Eq.refl (mI v_waits)) (Eq.refl (mA v_wait))) (fun rc22 => ?_)
    refine tl_ite (jc_eq (Eq.refl (mI rc22)) jlitI_0) ?_ ?_
    · refine tl_gd (jg_ib (Eq.refl (mI v_waits))) (fun _ => ?_)
      refine tl_g (fun h1 => ?_)
      exact (tl_some (jp2 jlitI_1 (jp2 (Eq.refl (mI v_at)) (jp2 (Eq.refl (mI v_bad)) (jp2 (Eq.refl (mI v_badPlace)) (jp2 (Eq.refl (mI v_coded)) (jp2 (Eq.refl (mI v_open)) (jp2 (ja_add (Eq.refl (mI v_waits)) jlitI_1 h1) (jp2 (Eq.refl (mA v_codes)) (jupA (Eq.refl (mA v_wait)) (jx (Eq.refl (mI v_waits))) (Eq.refl (mI x1))))))))))))
    · exact (t_pM_goesOn_b174 (Eq.refl N) (Eq.refl (mI v_base)) (Eq.refl (mI v_end)) (Eq.refl (mA v_tape)) t_self (Eq.refl (mI x1)) (Eq.refl (mI v_at)) (Eq.refl (mI v_bad)) (Eq.refl (mI v_badPlace)) (Eq.refl (mI v_coded)) (Eq.refl (mI v_open)) (Eq.refl (mI v_waits)) (Eq.refl (mA v_codes)) (Eq.refl (mA v_wait)))
  · exact (t_pM_goesOn_b174 (Eq.refl N) (Eq.refl (mI v_base)) (Eq.refl (mI v_end)) (Eq.refl (mA v_tape)) t_self (Eq.refl (mI x1)) (Eq.refl (mI v_at)) (Eq.refl (mI v_bad)) (Eq.refl (mI v_badPlace)) (Eq.refl (mI v_coded)) (Eq.refl (mI v_open)) (Eq.refl (mI v_waits)) (Eq.refl (mA v_codes)) (Eq.refl (mA v_wait)))
theorem t_pM_goesOn_b158 {N N_j : Nat} (t_N : N = N_j) {v_base : Int32} {v_base_j : Int} (t_v_base : mI v_base = v_base_j) {v_end : Int32} {v_end_j : Int} (t_v_end : mI v_end = v_end_j) {v_tape : (Nat → Int32)} {v_tape_j : (Nat → Int)} (t_v_tape : mA v_tape = v_tape_j) {x1 : Int32} {x1_j : Int} (t_x1 : mI x1 = x1_j) {v_at : Int32} {v_at_j : Int} (t_v_at : mI v_at = v_at_j) {v_bad : Int32} {v_bad_j : Int} (t_v_bad : mI v_bad = v_bad_j) {v_badPlace : Int32} {v_badPlace_j : Int} (t_v_badPlace : mI v_badPlace = v_badPlace_j) {v_open : Int32} {v_open_j : Int} (t_v_open : mI v_open = v_open_j) {v_wait : (Nat → Int32)} {v_wait_j : (Nat → Int)} (t_v_wait : mA v_wait = v_wait_j) {n n_j : Nat} (t_n : n = n_j) {w0_ : Int32} {w0__j : Int} (t_w0_ : mI w0_ = w0__j) {w1_ : Int32} {w1__j : Int} (t_w1_ : mI w1_ = w1__j) {w2_ : (Nat → Int32)} {w2__j : (Nat → Int)} (t_w2_ : mA w2_ = w2__j) : tl (mP mI (mP mI (mP mI (mP mI (mP mI (mP mI (mP mI (mP mA mA)))))))) (iM_goesOn_b158 N_j v_base_j v_end_j v_tape_j x1_j v_at_j v_bad_j v_badPlace_j v_open_j v_wait_j n_j w0__j w1__j w2__j) (pM_goesOn_b158 N v_base v_end v_tape x1 v_at v_bad v_badPlace v_open v_wait n w0_ w1_ w2_) := by
  subst t_N
  subst t_v_base
  subst t_v_end
  subst t_v_tape
  subst t_x1
  subst t_v_at
  subst t_v_bad
  subst t_v_badPlace
  subst t_v_open
  subst t_v_wait
  subst t_n
  subst t_w0_
  subst t_w1_
  subst t_w2_
  exact tl_zlp3 (fun s2 s hs w0_ w1_ w2_ => t_pM_goesOn_b158_F (Eq.refl N) (Eq.refl (mI v_base)) (Eq.refl (mI v_end)) (Eq.refl (mA v_tape)) (Eq.refl (mI x1)) (Eq.refl (mI v_at)) (Eq.refl (mI v_bad)) (Eq.refl (mI v_badPlace)) (Eq.refl (mI v_open)) (Eq.refl (mA v_wait)) hs (Eq.refl (mI w0_)) (Eq.refl (mI w1_)) (Eq.refl (mA w2_))) n w0_ w1_ w2_
theorem t_pM_goesOn_b136 {N N_j : Nat} (t_N : N = N_j) {v_base : Int32} {v_base_j : Int} (t_v_base : mI v_base = v_base_j) {v_end : Int32} {v_end_j : Int} (t_v_end : mI v_end = v_end_j) {v_tape : (Nat → Int32)} {v_tape_j : (Nat → Int)} (t_v_tape : mA v_tape = v_tape_j) {v_at : Int32} {v_at_j : Int} (t_v_at : mI v_at = v_at_j) {v_bad : Int32} {v_bad_j : Int} (t_v_bad : mI v_bad = v_bad_j) {v_badPlace : Int32} {v_badPlace_j : Int} (t_v_badPlace : mI v_badPlace = v_badPlace_j) {v_coded : Int32} {v_coded_j : Int} (t_v_coded : mI v_coded = v_coded_j) {v_open : Int32} {v_open_j : Int} (t_v_open : mI v_open = v_open_j) {v_waits : Int32} {v_waits_j : Int} (t_v_waits : mI v_waits = v_waits_j) {v_codes : (Nat → Int32)} {v_codes_j : (Nat → Int)} (t_v_codes : mA v_codes = v_codes_j) {v_wait : (Nat → Int32)} {v_wait_j : (Nat → Int)} (t_v_wait : mA v_wait = v_wait_j) : tl (mP mI (mP mI (mP mI (mP mI (mP mI (mP mI (mP mI (mP mA mA)))))))) (iM_goesOn_b136 N_j v_base_j v_end_j v_tape_j v_at_j v_bad_j v_badPlace_j v_coded_j v_open_j v_waits_j v_codes_j v_wait_j) (pM_goesOn_b136 N v_base v_end v_tape v_at v_bad v_badPlace v_coded v_open v_waits v_codes v_wait) := by
  subst t_N
  subst t_v_base
  subst t_v_end
  subst t_v_tape
  subst t_v_at
  subst t_v_bad
  subst t_v_badPlace
  subst t_v_coded
  subst t_v_open
  subst t_v_waits
  subst t_v_codes
  subst t_v_wait
  unfold iM_goesOn_b136 pM_goesOn_b136
  refine tl_g (fun h1 => ?_)
  refine tl_gd (jg_ib (ja_sub (Eq.refl (mI v_at)) jlitI_1 h1)) (fun _ => ?_)
  refine tl_ite (jc_eq (jrd (Eq.refl (mA v_tape)) (jx (ja_sub (Eq.refl (mI v_at)) jlitI_1 h1))) jlitI_42) ?_ ?_
  · exact (t_pM_goesOn_b158 (Eq.refl N) (Eq.refl (mI v_base)) (Eq.refl (mI v_end)) (Eq.refl (mA v_tape)) jlitI_3 (Eq.refl (mI v_at)) (Eq.refl (mI v_bad)) (Eq.refl (mI v_badPlace)) (Eq.refl (mI v_open)) (Eq.refl (mA v_wait)) (Eq.refl N) (Eq.refl (mI v_coded)) (Eq.refl (mI v_waits)) (Eq.refl (mA v_codes)))
  · exact (t_pM_goesOn_b158 (Eq.refl N) (Eq.refl (mI v_base)) (Eq.refl (mI v_end)) (Eq.refl (mA v_tape)) jlitI_4 (Eq.refl (mI v_at)) (Eq.refl (mI v_bad)) (Eq.refl (mI v_badPlace)) (Eq.refl (mI v_open)) (Eq.refl (mA v_wait)) (Eq.refl N) (Eq.refl (mI v_coded)) (Eq.refl (mI v_waits)) (Eq.refl (mA v_codes)))
theorem t_pM_goesOn_b118 {N N_j : Nat} (t_N : N = N_j) {v_base : Int32} {v_base_j : Int} (t_v_base : mI v_base = v_base_j) {v_end : Int32} {v_end_j : Int} (t_v_end : mI v_end = v_end_j) {v_tape : (Nat → Int32)} {v_tape_j : (Nat → Int)} (t_v_tape : mA v_tape = v_tape_j) {v_at : Int32} {v_at_j : Int} (t_v_at : mI v_at = v_at_j) {v_bad : Int32} {v_bad_j : Int} (t_v_bad : mI v_bad = v_bad_j) {v_badPlace : Int32} {v_badPlace_j : Int} (t_v_badPlace : mI v_badPlace = v_badPlace_j) {v_coded : Int32} {v_coded_j : Int} (t_v_coded : mI v_coded = v_coded_j) {v_open : Int32} {v_open_j : Int} (t_v_open : mI v_open = v_open_j) {v_waits : Int32} {v_waits_j : Int} (t_v_waits : mI v_waits = v_waits_j) {v_codes : (Nat → Int32)} {v_codes_j : (Nat → Int)} (t_v_codes : mA v_codes = v_codes_j) {v_wait : (Nat → Int32)} {v_wait_j : (Nat → Int)} (t_v_wait : mA v_wait = v_wait_j) : tl (mP mI (mP mI (mP mI (mP mI (mP mI (mP mI (mP mI (mP mA mA)))))))) (iM_goesOn_b118 N_j v_base_j v_end_j v_tape_j v_at_j v_bad_j v_badPlace_j v_coded_j v_open_j v_waits_j v_codes_j v_wait_j) (pM_goesOn_b118 N v_base v_end v_tape v_at v_bad v_badPlace v_coded v_open v_waits v_codes v_wait) := by
  subst t_N
  subst t_v_base
  subst t_v_end
  subst t_v_tape
  subst t_v_at
  subst t_v_bad
  subst t_v_badPlace
  subst t_v_coded
  subst t_v_open
  subst t_v_waits
  subst t_v_codes
  subst t_v_wait
  unfold iM_goesOn_b118 pM_goesOn_b118
  refine tl_bd2 (t_pM_takesSign (Eq.refl N) jlitI_42 (Eq.refl (mI v_at)) (Eq.refl (mI v_bad)) (Eq.refl (mI v_end)) (Eq.refl (mA v_tape))) (fun rc5 v_at_c5 => ?_)
  refine tl_ite (jc_eq (Eq.refl (mI rc5)) jlitI_0) ?_ ?_
  · refine tl_bd2 (t_pM_takesSign (Eq.refl N) jlitI_47 (Eq.refl (mI v_at_c5)) (Eq.refl (mI v_bad)) (Eq.refl (mI v_end)) (Eq.refl (mA v_tape))) (fun rc6 v_at_c6 => ?_)
    refine tl_ite (jc_eq (Eq.refl (mI rc6)) jlitI_0) ?_ ?_
    · refine tl_bd2 (t_pM_takesSign (Eq.refl N) jlitI_43 (Eq.refl (mI v_at_c6)) (Eq.refl (mI v_bad)) (Eq.refl (mI v_end)) (Eq.refl (mA v_tape))) (fun rc7 v_at_c7 => ?_)
      refine tl_ite (jc_eq (Eq.refl (mI rc7)) jlitI_0) ?_ ?_
      · refine tl_bd2 (t_pM_takesSign (Eq.refl N) jlitI_45 (Eq.refl (mI v_at_c7)) (Eq.refl (mI v_bad)) (Eq.refl (mI v_end)) (Eq.refl (mA v_tape))) (fun rc8 v_at_c8 => ?_)
        refine tl_ite (jc_eq (Eq.refl (mI rc8)) jlitI_0) ?_ ?_
        · refine tl_bd1 (t_pM_mark (Eq.refl N) (Eq.refl (mI v_base)) (Eq.refl (mI v_waits)) (Eq.refl (mA v_wait))) (fun rc9 => ?_)
          refine tl_ite (jc_eq (Eq.refl (mI rc9)) jlitI_21) ?_ ?_
          · exact (t_pM_goesOn_b322 (Eq.refl N) (Eq.refl (mI v_base)) (Eq.refl (mI v_end)) (Eq.refl (mA v_tape)) (Eq.refl (mI v_at_c8)) (Eq.refl (mI v_bad)) (Eq.refl (mI v_badPlace)) (Eq.refl (mI v_coded)) (Eq.refl (mI v_open)) (Eq.refl (mI v_waits)) (Eq.refl (mA v_codes)) (Eq.refl (mA v_wait)))
          · refine tl_bd1 (t_pM_mark (Eq.refl N) (Eq.refl (mI v_base)) (Eq.refl (mI v_waits)) (Eq.refl (mA v_wait))) (fun rc10 => ?_)
            refine tl_ite (jc_eq (Eq.refl (mI rc10)) jlitI_22) ?_ ?_
            · exact (t_pM_goesOn_b322 (Eq.refl N) (Eq.refl (mI v_base)) (Eq.refl (mI v_end)) (Eq.refl (mA v_tape)) (Eq.refl (mI v_at_c8)) (Eq.refl (mI v_bad)) (Eq.refl (mI v_badPlace)) (Eq.refl (mI v_coded)) (Eq.refl (mI v_open)) (Eq.refl (mI v_waits)) (Eq.refl (mA v_codes)) (Eq.refl (mA v_wait)))
            · refine tl_bd1 (t_pM_mark (Eq.refl N) (Eq.refl (mI v_base)) (Eq.refl (mI v_waits)) (Eq.refl (mA v_wait))) (fun rc11 => ?_)
              refine tl_ite (jc_eq (Eq.refl (mI rc11)) jlitI_m1) ?_ ?_
              · exact (tl_some (jp2 jlitI_0 (jp2 (Eq.refl (mI v_at_c8)) (jp2 (Eq.refl (mI v_bad)) (jp2 (Eq.refl (mI v_badPlace)) (jp2 (Eq.refl (mI v_coded)) (jp2 (Eq.refl (mI v_open)) (jp2 (Eq.refl (mI v_waits)) (jp2 (Eq.refl (mA v_codes)) (Eq.refl (mA v_wait)))))))))))
              · refine tl_ite (jc_eq (Eq.refl (mI v_bad)) jlitI_0) ?_ ?_
                · refine tl_bd2 (t_pM_fail jlitI_1 (Eq.refl (mI v_at_c8)) (Eq.refl (mI v_bad)) (Eq.refl (mI v_badPlace))) (fun v_bad_c12 v_badPlace_c12 => ?_)
                  exact (tl_some (jp2 jlitI_0 (jp2 (Eq.refl (mI v_at_c8)) (jp2 (Eq.refl (mI v_bad_c12)) (jp2 (Eq.refl (mI v_badPlace_c12)) (jp2 (Eq.refl (mI v_coded)) (jp2 (Eq.refl (mI v_open)) (jp2 (Eq.refl (mI v_waits)) (jp2 (Eq.refl (mA v_codes)) (Eq.refl (mA v_wait)))))))))))
                · exact (tl_some (jp2 jlitI_0 (jp2 (Eq.refl (mI v_at_c8)) (jp2 (Eq.refl (mI v_bad)) (jp2 (Eq.refl (mI v_badPlace)) (jp2 (Eq.refl (mI v_coded)) (jp2 (Eq.refl (mI v_open)) (jp2 (Eq.refl (mI v_waits)) (jp2 (Eq.refl (mA v_codes)) (Eq.refl (mA v_wait)))))))))))
        · exact (t_pM_goesOn_b221 (Eq.refl N) (Eq.refl (mI v_base)) (Eq.refl (mI v_end)) (Eq.refl (mA v_tape)) (Eq.refl (mI v_at_c8)) (Eq.refl (mI v_bad)) (Eq.refl (mI v_badPlace)) (Eq.refl (mI v_coded)) (Eq.refl (mI v_open)) (Eq.refl (mI v_waits)) (Eq.refl (mA v_codes)) (Eq.refl (mA v_wait)))
      · exact (t_pM_goesOn_b221 (Eq.refl N) (Eq.refl (mI v_base)) (Eq.refl (mI v_end)) (Eq.refl (mA v_tape)) (Eq.refl (mI v_at_c7)) (Eq.refl (mI v_bad)) (Eq.refl (mI v_badPlace)) (Eq.refl (mI v_coded)) (Eq.refl (mI v_open)) (Eq.refl (mI v_waits)) (Eq.refl (mA v_codes)) (Eq.refl (mA v_wait)))
    · exact (t_pM_goesOn_b136 (Eq.refl N) (Eq.refl (mI v_base)) (Eq.refl (mI v_end)) (Eq.refl (mA v_tape)) (Eq.refl (mI v_at_c6)) (Eq.refl (mI v_bad)) (Eq.refl (mI v_badPlace)) (Eq.refl (mI v_coded)) (Eq.refl (mI v_open)) (Eq.refl (mI v_waits)) (Eq.refl (mA v_codes)) (Eq.refl (mA v_wait)))
  · exact (t_pM_goesOn_b136 (Eq.refl N) (Eq.refl (mI v_base)) (Eq.refl (mI v_end)) (Eq.refl (mA v_tape)) (Eq.refl (mI v_at_c5)) (Eq.refl (mI v_bad)) (Eq.refl (mI v_badPlace)) (Eq.refl (mI v_coded)) (Eq.refl (mI v_open)) (Eq.refl (mI v_waits)) (Eq.refl (mA v_codes)) (Eq.refl (mA v_wait)))
theorem t_pM_goesOn {N N_j : Nat} (t_N : N = N_j) {v_at : Int32} {v_at_j : Int} (t_v_at : mI v_at = v_at_j) {v_bad : Int32} {v_bad_j : Int} (t_v_bad : mI v_bad = v_bad_j) {v_badPlace : Int32} {v_badPlace_j : Int} (t_v_badPlace : mI v_badPlace = v_badPlace_j) {v_base : Int32} {v_base_j : Int} (t_v_base : mI v_base = v_base_j) {v_coded : Int32} {v_coded_j : Int} (t_v_coded : mI v_coded = v_coded_j) {v_end : Int32} {v_end_j : Int} (t_v_end : mI v_end = v_end_j) {v_open : Int32} {v_open_j : Int} (t_v_open : mI v_open = v_open_j) {v_waits : Int32} {v_waits_j : Int} (t_v_waits : mI v_waits = v_waits_j) {v_codes : (Nat → Int32)} {v_codes_j : (Nat → Int)} (t_v_codes : mA v_codes = v_codes_j) {v_tape : (Nat → Int32)} {v_tape_j : (Nat → Int)} (t_v_tape : mA v_tape = v_tape_j) {v_wait : (Nat → Int32)} {v_wait_j : (Nat → Int)} (t_v_wait : mA v_wait = v_wait_j) : tl (mP mI (mP mI (mP mI (mP mI (mP mI (mP mI (mP mI (mP mA mA)))))))) (iM_goesOn N_j v_at_j v_bad_j v_badPlace_j v_base_j v_coded_j v_end_j v_open_j v_waits_j v_codes_j v_tape_j v_wait_j) (pM_goesOn N v_at v_bad v_badPlace v_base v_coded v_end v_open v_waits v_codes v_tape v_wait) := by
  subst t_N
  subst t_v_at
  subst t_v_bad
  subst t_v_badPlace
  subst t_v_base
  subst t_v_coded
  subst t_v_end
  subst t_v_open
  subst t_v_waits
  subst t_v_codes
  subst t_v_tape
  subst t_v_wait
  unfold iM_goesOn pM_goesOn
  exact (t_pM_goesOn_b0 (Eq.refl N) (Eq.refl (mI v_base)) (Eq.refl (mI v_end)) (Eq.refl (mA v_tape)) (Eq.refl (mI v_bad)) (Eq.refl (mI v_badPlace)) (Eq.refl (mA v_wait)) (fun v_at_k1 v_coded_k2 v_open_k3 v_waits_k4 v_codes_k5 => by exact (t_pM_goesOn_b118 (Eq.refl N) (Eq.refl (mI v_base)) (Eq.refl (mI v_end)) (Eq.refl (mA v_tape)) (Eq.refl (mI v_at_k1)) (Eq.refl (mI v_bad)) (Eq.refl (mI v_badPlace)) (Eq.refl (mI v_coded_k2)) (Eq.refl (mI v_open_k3)) (Eq.refl (mI v_waits_k4)) (Eq.refl (mA v_codes_k5)) (Eq.refl (mA v_wait)))) (Eq.refl N) (Eq.refl (mI v_at)) (Eq.refl (mI v_coded)) (Eq.refl (mI v_open)) (Eq.refl (mI v_waits)) (Eq.refl (mA v_codes)))
theorem t_pM_sums_b15_F {N N_j : Nat} (t_N : N = N_j) {v_end : Int32} {v_end_j : Int} (t_v_end : mI v_end = v_end_j) {v_debtWord : (Nat → Int32)} {v_debtWord_j : (Nat → Int)} (t_v_debtWord : mA v_debtWord = v_debtWord_j) {v_maxWord : (Nat → Int32)} {v_maxWord_j : (Nat → Int)} (t_v_maxWord : mA v_maxWord = v_maxWord_j) {v_minWord : (Nat → Int32)} {v_minWord_j : (Nat → Int)} (t_v_minWord : mA v_minWord = v_minWord_j) {v_paidWord : (Nat → Int32)} {v_paidWord_j : (Nat → Int)} (t_v_paidWord : mA v_paidWord = v_paidWord_j) {v_penceWord : (Nat → Int32)} {v_penceWord_j : (Nat → Int)} (t_v_penceWord : mA v_penceWord = v_penceWord_j) {v_poundsWord : (Nat → Int32)} {v_poundsWord_j : (Nat → Int)} (t_v_poundsWord : mA v_poundsWord = v_poundsWord_j) {v_shillingsWord : (Nat → Int32)} {v_shillingsWord_j : (Nat → Int)} (t_v_shillingsWord : mA v_shillingsWord = v_shillingsWord_j) {v_tape : (Nat → Int32)} {v_tape_j : (Nat → Int)} (t_v_tape : mA v_tape = v_tape_j) {v_termWord : (Nat → Int32)} {v_termWord_j : (Nat → Int)} (t_v_termWord : mA v_termWord = v_termWord_j) {v_yearWord : (Nat → Int32)} {v_yearWord_j : (Nat → Int)} (t_v_yearWord : mA v_yearWord = v_yearWord_j) {x1 : Int32} {x1_j : Int} (t_x1 : mI x1 = x1_j) {v_base : Int32} {v_base_j : Int} (t_v_base : mI v_base = v_base_j) {k53 : Int32 → Int32 → Int32 → Int32 → Int32 → Int32 → Int32 → (Nat → Int32) → (Nat → Int32) → Option R_pM_sums} {k53_j : Int → Int → Int → Int → Int → Int → Int → (Nat → Int) → (Nat → Int) → Option R_iM_sums} (t_k53 : ∀ (q0_ : Int32) (q1_ : Int32) (q2_ : Int32) (q3_ : Int32) (q4_ : Int32) (q5_ : Int32) (q6_ : Int32) (q7_ : (Nat → Int32)) (q8_ : (Nat → Int32)), tl (mP mI (mP mI (mP mI (mP mI (mP mI (mP mI (mP mI (mP mI (mP mA mA))))))))) (k53_j (mI q0_) (mI q1_) (mI q2_) (mI q3_) (mI q4_) (mI q5_) (mI q6_) (mA q7_) (mA q8_)) (k53 q0_ q1_ q2_ q3_ q4_ q5_ q6_ q7_ q8_)) {self : Int32 → Int32 → Int32 → Int32 → Int32 → Int32 → Int32 → Int32 → (Nat → Int32) → (Nat → Int32) → Option R_pM_sums} {self_j : Int → Int → Int → Int → Int → Int → Int → Int → (Nat → Int) → (Nat → Int) → Option R_iM_sums} (t_self : ∀ (q0_ : Int32) (q1_ : Int32) (q2_ : Int32) (q3_ : Int32) (q4_ : Int32) (q5_ : Int32) (q6_ : Int32) (q7_ : Int32) (q8_ : (Nat → Int32)) (q9_ : (Nat → Int32)), tl (mP mI (mP mI (mP mI (mP mI (mP mI (mP mI (mP mI (mP mI (mP mA mA))))))))) (self_j (mI q0_) (mI q1_) (mI q2_) (mI q3_) (mI q4_) (mI q5_) (mI q6_) (mI q7_) (mA q8_) (mA q9_)) (self q0_ q1_ q2_ q3_ q4_ q5_ q6_ q7_ q8_ q9_)) {x2 : Int32} {x2_j : Int} (t_x2 : mI x2 = x2_j) {v_at : Int32} {v_at_j : Int} (t_v_at : mI v_at = v_at_j) {v_bad : Int32} {v_bad_j : Int} (t_v_bad : mI v_bad = v_bad_j) {v_badPlace : Int32} {v_badPlace_j : Int} (t_v_badPlace : mI v_badPlace = v_badPlace_j) {v_coded : Int32} {v_coded_j : Int} (t_v_coded : mI v_coded = v_coded_j) {v_ended : Int32} {v_ended_j : Int} (t_v_ended : mI v_ended = v_ended_j) {v_open : Int32} {v_open_j : Int} (t_v_open : mI v_open = v_open_j) {v_waits : Int32} {v_waits_j : Int} (t_v_waits : mI v_waits = v_waits_j) {v_codes : (Nat → Int32)} {v_codes_j : (Nat → Int)} (t_v_codes : mA v_codes = v_codes_j) {v_wait : (Nat → Int32)} {v_wait_j : (Nat → Int)} (t_v_wait : mA v_wait = v_wait_j) : tl (mP mI (mP mI (mP mI (mP mI (mP mI (mP mI (mP mI (mP mI (mP mA mA))))))))) (iM_sums_b15_F N_j v_end_j v_debtWord_j v_maxWord_j v_minWord_j v_paidWord_j v_penceWord_j v_poundsWord_j v_shillingsWord_j v_tape_j v_termWord_j v_yearWord_j x1_j v_base_j k53_j self_j x2_j v_at_j v_bad_j v_badPlace_j v_coded_j v_ended_j v_open_j v_waits_j v_codes_j v_wait_j) (pM_sums_b15_F N v_end v_debtWord v_maxWord v_minWord v_paidWord v_penceWord v_poundsWord v_shillingsWord v_tape v_termWord v_yearWord x1 v_base k53 self x2 v_at v_bad v_badPlace v_coded v_ended v_open v_waits v_codes v_wait) := by
  subst t_N
  subst t_v_end
  subst t_v_debtWord
  subst t_v_maxWord
  subst t_v_minWord
  subst t_v_paidWord
  subst t_v_penceWord
  subst t_v_poundsWord
  subst t_v_shillingsWord
  subst t_v_tape
  subst t_v_termWord
  subst t_v_yearWord
  subst t_x1
  subst t_v_base
  subst t_x2
  subst t_v_at
  subst t_v_bad
  subst t_v_badPlace
  subst t_v_coded
  subst t_v_ended
  subst t_v_open
  subst t_v_waits
  subst t_v_codes
  subst t_v_wait
  unfold iM_sums_b15_F pM_sums_b15_F
  refine tl_ite (jc_eq (Eq.refl (mI x2)) jlitI_0) ?_ ?_
  · exact (tl_e9 (Eq.refl (mI v_at)) (Eq.refl (mI v_bad)) (Eq.refl (mI v_badPlace)) (Eq.refl (mI v_coded)) (Eq.refl (mI v_ended)) (Eq.refl (mI v_open)) (Eq.refl (mI v_waits)) (Eq.refl (mA v_codes)) (Eq.refl (mA v_wait)) (t_k53 _ _ _ _ _ _ _ _ _))
  · refine tl_ite (jc_eq (Eq.refl (mI v_bad)) jlitI_0) ?_ ?_
    · refine tl_bd9 (t_pM_part (Eq.refl N) (Eq.refl (mI v_at)) (Eq.refl (mI v_bad)) (Eq.refl (mI v_badPlace)) (Eq.refl (mI v_coded)) (Eq.refl (mI v_end)) (Eq.refl (mI v_ended)) (Eq.refl (mI v_open)) (Eq.refl (mI v_waits)) (Eq.refl (mA v_codes)) (Eq.refl (mA v_debtWord)) (Eq.refl (mA v_maxWord)) (Eq.refl (mA v_minWord)) (Eq.refl (mA v_paidWord)) (Eq.refl (mA v_penceWord)) (Eq.refl (mA v_poundsWord)) (Eq.refl (mA v_shillingsWord)) (Eq.refl (mA v_tape)) (Eq.refl (mA v_termWord)) (Eq.refl (mA v_wait)) (Eq.refl (mA v_yearWord))) (fun v_at_c1 v_bad_c1 v_badPlace_c1 v_coded_c1 v_ended_c1 v_open_c1 v_waits_c1 v_codes_c1 v_wait_c1 => ?_)
      refine tl_ite (jc_eq (Eq.refl (mI v_bad_c1)) jlitI_0) ?_ ?_
      · refine tl_bd9 (t_pM_goesOn (Eq.refl N) (Eq.refl (mI v_at_c1)) (Eq.refl (mI v_bad_c1)) (Eq.refl (mI v_badPlace_c1)) (Eq.refl (mI v_base)) (Eq.refl (mI v_coded_c1)) (Eq.refl (mI v_end)) (Eq.refl (mI v_open_c1)) (Eq.refl (mI v_waits_c1)) (Eq.refl (mA v_codes_c1)) (Eq.refl (mA v_tape)) (Eq.refl (mA v_wait_c1))) (fun rc2 v_at_c2 v_bad_c2 v_badPlace_c2 v_coded_c2 v_open_c2 v_waits_c2 v_codes_c2 v_wait_c2 => ?_)
        refine tl_ite (jc_eq (Eq.refl (mI rc2)) jlitI_0) ?_ ?_
        · exact (tl_e10 jlitI_0 (Eq.refl (mI v_at_c2)) (Eq.refl (mI v_bad_c2)) (Eq.refl (mI v_badPlace_c2)) (Eq.refl (mI v_coded_c2)) (Eq.refl (mI v_ended_c1)) (Eq.refl (mI v_open_c2)) (Eq.refl (mI v_waits_c2)) (Eq.refl (mA v_codes_c2)) (Eq.refl (mA v_wait_c2)) (t_self _ _ _ _ _ _ _ _ _ _))
        · exact (tl_e10 jlitI_1 (Eq.refl (mI v_at_c2)) (Eq.refl (mI v_bad_c2)) (Eq.refl (mI v_badPlace_c2)) (Eq.refl (mI v_coded_c2)) (Eq.refl (mI v_ended_c1)) (Eq.refl (mI v_open_c2)) (Eq.refl (mI v_waits_c2)) (Eq.refl (mA v_codes_c2)) (Eq.refl (mA v_wait_c2)) (t_self _ _ _ _ _ _ _ _ _ _))
      · exact (tl_e10 jlitI_0 (Eq.refl (mI v_at_c1)) (Eq.refl (mI v_bad_c1)) (Eq.refl (mI v_badPlace_c1)) (Eq.refl (mI v_coded_c1)) (Eq.refl (mI v_ended_c1)) (Eq.refl (mI v_open_c1)) (Eq.refl (mI v_waits_c1)) (Eq.refl (mA v_codes_c1)) (Eq.refl (mA v_wait_c1)) (t_self _ _ _ _ _ _ _ _ _ _))
    · exact (tl_e9 (Eq.refl (mI v_at)) (Eq.refl (mI v_bad)) (Eq.refl (mI v_badPlace)) (Eq.refl (mI v_coded)) (Eq.refl (mI v_ended)) (Eq.refl (mI v_open)) (Eq.refl (mI v_waits)) (Eq.refl (mA v_codes)) (Eq.refl (mA v_wait)) (t_k53 _ _ _ _ _ _ _ _ _))
theorem t_pM_sums_b15 {N N_j : Nat} (t_N : N = N_j) {v_end : Int32} {v_end_j : Int} (t_v_end : mI v_end = v_end_j) {v_debtWord : (Nat → Int32)} {v_debtWord_j : (Nat → Int)} (t_v_debtWord : mA v_debtWord = v_debtWord_j) {v_maxWord : (Nat → Int32)} {v_maxWord_j : (Nat → Int)} (t_v_maxWord : mA v_maxWord = v_maxWord_j) {v_minWord : (Nat → Int32)} {v_minWord_j : (Nat → Int)} (t_v_minWord : mA v_minWord = v_minWord_j) {v_paidWord : (Nat → Int32)} {v_paidWord_j : (Nat → Int)} (t_v_paidWord : mA v_paidWord = v_paidWord_j) {v_penceWord : (Nat → Int32)} {v_penceWord_j : (Nat → Int)} (t_v_penceWord : mA v_penceWord = v_penceWord_j) {v_poundsWord : (Nat → Int32)} {v_poundsWord_j : (Nat → Int)} (t_v_poundsWord : mA v_poundsWord = v_poundsWord_j) {v_shillingsWord : (Nat → Int32)} {v_shillingsWord_j : (Nat → Int)} (t_v_shillingsWord : mA v_shillingsWord = v_shillingsWord_j) {v_tape : (Nat → Int32)} {v_tape_j : (Nat → Int)} (t_v_tape : mA v_tape = v_tape_j) {v_termWord : (Nat → Int32)} {v_termWord_j : (Nat → Int)} (t_v_termWord : mA v_termWord = v_termWord_j) {v_yearWord : (Nat → Int32)} {v_yearWord_j : (Nat → Int)} (t_v_yearWord : mA v_yearWord = v_yearWord_j) {x1 : Int32} {x1_j : Int} (t_x1 : mI x1 = x1_j) {v_base : Int32} {v_base_j : Int} (t_v_base : mI v_base = v_base_j) {k53 : Int32 → Int32 → Int32 → Int32 → Int32 → Int32 → Int32 → (Nat → Int32) → (Nat → Int32) → Option R_pM_sums} {k53_j : Int → Int → Int → Int → Int → Int → Int → (Nat → Int) → (Nat → Int) → Option R_iM_sums} (t_k53 : ∀ (q0_ : Int32) (q1_ : Int32) (q2_ : Int32) (q3_ : Int32) (q4_ : Int32) (q5_ : Int32) (q6_ : Int32) (q7_ : (Nat → Int32)) (q8_ : (Nat → Int32)), tl (mP mI (mP mI (mP mI (mP mI (mP mI (mP mI (mP mI (mP mI (mP mA mA))))))))) (k53_j (mI q0_) (mI q1_) (mI q2_) (mI q3_) (mI q4_) (mI q5_) (mI q6_) (mA q7_) (mA q8_)) (k53 q0_ q1_ q2_ q3_ q4_ q5_ q6_ q7_ q8_)) {n n_j : Nat} (t_n : n = n_j) {w0_ : Int32} {w0__j : Int} (t_w0_ : mI w0_ = w0__j) {w1_ : Int32} {w1__j : Int} (t_w1_ : mI w1_ = w1__j) {w2_ : Int32} {w2__j : Int} (t_w2_ : mI w2_ = w2__j) {w3_ : Int32} {w3__j : Int} (t_w3_ : mI w3_ = w3__j) {w4_ : Int32} {w4__j : Int} (t_w4_ : mI w4_ = w4__j) {w5_ : Int32} {w5__j : Int} (t_w5_ : mI w5_ = w5__j) {w6_ : Int32} {w6__j : Int} (t_w6_ : mI w6_ = w6__j) {w7_ : Int32} {w7__j : Int} (t_w7_ : mI w7_ = w7__j) {w8_ : (Nat → Int32)} {w8__j : (Nat → Int)} (t_w8_ : mA w8_ = w8__j) {w9_ : (Nat → Int32)} {w9__j : (Nat → Int)} (t_w9_ : mA w9_ = w9__j) : tl (mP mI (mP mI (mP mI (mP mI (mP mI (mP mI (mP mI (mP mI (mP mA mA))))))))) (iM_sums_b15 N_j v_end_j v_debtWord_j v_maxWord_j v_minWord_j v_paidWord_j v_penceWord_j v_poundsWord_j v_shillingsWord_j v_tape_j v_termWord_j v_yearWord_j x1_j v_base_j k53_j n_j w0__j w1__j w2__j w3__j w4__j w5__j w6__j w7__j w8__j w9__j) (pM_sums_b15 N v_end v_debtWord v_maxWord v_minWord v_paidWord v_penceWord v_poundsWord v_shillingsWord v_tape v_termWord v_yearWord x1 v_base k53 n w0_ w1_ w2_ w3_ w4_ w5_ w6_ w7_ w8_ w9_) := by
  subst t_N
  subst t_v_end
  subst t_v_debtWord
  subst t_v_maxWord
  subst t_v_minWord
  subst t_v_paidWord
  subst t_v_penceWord
  subst t_v_poundsWord
  subst t_v_shillingsWord
  subst t_v_tape
  subst t_v_termWord
  subst t_v_yearWord
  subst t_x1
  subst t_v_base
  subst t_n
  subst t_w0_
  subst t_w1_
  subst t_w2_
  subst t_w3_
  subst t_w4_
  subst t_w5_
  subst t_w6_
  subst t_w7_
  subst t_w8_
  subst t_w9_
  exact tl_zlp10 (fun s2 s hs w0_ w1_ w2_ w3_ w4_ w5_ w6_ w7_ w8_ w9_ => t_pM_sums_b15_F (Eq.refl N) (Eq.refl (mI v_end)) (Eq.refl (mA v_debtWord)) (Eq.refl (mA v_maxWord)) (Eq.refl (mA v_minWord)) (Eq.refl (mA v_paidWord)) (Eq.refl (mA v_penceWord)) (Eq.refl (mA v_poundsWord)) (Eq.refl (mA v_shillingsWord)) (Eq.refl (mA v_tape)) (Eq.refl (mA v_termWord)) (Eq.refl (mA v_yearWord)) (Eq.refl (mI x1)) (Eq.refl (mI v_base)) t_k53 hs (Eq.refl (mI w0_)) (Eq.refl (mI w1_)) (Eq.refl (mI w2_)) (Eq.refl (mI w3_)) (Eq.refl (mI w4_)) (Eq.refl (mI w5_)) (Eq.refl (mI w6_)) (Eq.refl (mI w7_)) (Eq.refl (mA w8_)) (Eq.refl (mA w9_))) n w0_ w1_ w2_ w3_ w4_ w5_ w6_ w7_ w8_ w9_
theorem t_pM_sums_b53_F {N N_j : Nat} (t_N : N = N_j) {v_end : Int32} {v_end_j : Int} (t_v_end : mI v_end = v_end_j) {v_debtWord : (Nat → Int32)} {v_debtWord_j : (Nat → Int)} (t_v_debtWord : mA v_debtWord = v_debtWord_j) {v_maxWord : (Nat → Int32)} {v_maxWord_j : (Nat → Int)} (t_v_maxWord : mA v_maxWord = v_maxWord_j) {v_minWord : (Nat → Int32)} {v_minWord_j : (Nat → Int)} (t_v_minWord : mA v_minWord = v_minWord_j) {v_paidWord : (Nat → Int32)} {v_paidWord_j : (Nat → Int)} (t_v_paidWord : mA v_paidWord = v_paidWord_j) {v_penceWord : (Nat → Int32)} {v_penceWord_j : (Nat → Int)} (t_v_penceWord : mA v_penceWord = v_penceWord_j) {v_poundsWord : (Nat → Int32)} {v_poundsWord_j : (Nat → Int)} (t_v_poundsWord : mA v_poundsWord = v_poundsWord_j) {v_shillingsWord : (Nat → Int32)} {v_shillingsWord_j : (Nat → Int)} (t_v_shillingsWord : mA v_shillingsWord = v_shillingsWord_j) {v_tape : (Nat → Int32)} {v_tape_j : (Nat → Int)} (t_v_tape : mA v_tape = v_tape_j) {v_termWord : (Nat → Int32)} {v_termWord_j : (Nat → Int)} (t_v_termWord : mA v_termWord = v_termWord_j) {v_yearWord : (Nat → Int32)} {v_yearWord_j : (Nat → Int)} (t_v_yearWord : mA v_yearWord = v_yearWord_j) {x1 : Int32} {x1_j : Int} (t_x1 : mI x1 = x1_j) {v_at : Int32} {v_at_j : Int} (t_v_at : mI v_at = v_at_j) {v_bad : Int32} {v_bad_j : Int} (t_v_bad : mI v_bad = v_bad_j) {v_badPlace : Int32} {v_badPlace_j : Int} (t_v_badPlace : mI v_badPlace = v_badPlace_j) {v_base : Int32} {v_base_j : Int} (t_v_base : mI v_base = v_base_j) {v_ended : Int32} {v_ended_j : Int} (t_v_ended : mI v_ended = v_ended_j) {v_open : Int32} {v_open_j : Int} (t_v_open : mI v_open = v_open_j) {v_wait : (Nat → Int32)} {v_wait_j : (Nat → Int)} (t_v_wait : mA v_wait = v_wait_j) {k78 : Int32 → Int32 → (Nat → Int32) → Option R_pM_sums} {k78_j : Int → Int → (Nat → Int) → Option R_iM_sums} (t_k78 : ∀ (q0_ : Int32) (q1_ : Int32) (q2_ : (Nat → Int32)), tl (mP mI (mP mI (mP mI (mP mI (mP mI (mP mI (mP mI (mP mI (mP mA mA))))))))) (k78_j (mI q0_) (mI q1_) (mA q2_)) (k78 q0_ q1_ q2_)) {self : Int32 → Int32 → (Nat → Int32) → Option R_pM_sums} {self_j : Int → Int → (Nat → Int) → Option R_iM_sums} (t_self : ∀ (q0_ : Int32) (q1_ : Int32) (q2_ : (Nat → Int32)), tl (mP mI (mP mI (mP mI (mP mI (mP mI (mP mI (mP mI (mP mI (mP mA mA))))))))) (self_j (mI q0_) (mI q1_) (mA q2_)) (self q0_ q1_ q2_)) {v_coded : Int32} {v_coded_j : Int} (t_v_coded : mI v_coded = v_coded_j) {v_waits : Int32} {v_waits_j : Int} (t_v_waits : mI v_waits = v_waits_j) {v_codes : (Nat → Int32)} {v_codes_j : (Nat → Int)} (t_v_codes : mA v_codes = v_codes_j) : tl (mP mI (mP mI (mP mI (mP mI (mP mI (mP mI (mP mI (mP mI (mP mA mA))))))))) (iM_sums_b53_F N_j v_end_j v_debtWord_j v_maxWord_j v_minWord_j v_paidWord_j v_penceWord_j v_poundsWord_j v_shillingsWord_j v_tape_j v_termWord_j v_yearWord_j x1_j v_at_j v_bad_j v_badPlace_j v_base_j v_ended_j v_open_j v_wait_j k78_j self_j v_coded_j v_waits_j v_codes_j) (pM_sums_b53_F N v_end v_debtWord v_maxWord v_minWord v_paidWord v_penceWord v_poundsWord v_shillingsWord v_tape v_termWord v_yearWord x1 v_at v_bad v_badPlace v_base v_ended v_open v_wait k78 self v_coded v_waits v_codes) := by
  subst t_N
  subst t_v_end
  subst t_v_debtWord
  subst t_v_maxWord
  subst t_v_minWord
  subst t_v_paidWord
  subst t_v_penceWord
  subst t_v_poundsWord
  subst t_v_shillingsWord
  subst t_v_tape
  subst t_v_termWord
  subst t_v_yearWord
  subst t_x1
  subst t_v_at
  subst t_v_bad
  subst t_v_badPlace
  subst t_v_base
  subst t_v_ended
  subst t_v_open
  subst t_v_wait
  subst t_v_coded
  subst t_v_waits
  subst t_v_codes
  unfold iM_sums_b53_F pM_sums_b53_F
  refine tl_ite (jc_eq (Eq.refl (mI v_bad)) jlitI_0) ?_ ?_
  · refine tl_ite (jc_le (Eq.refl (mI v_waits)) (Eq.refl (mI v_base))) ?_ ?_
    · exact (tl_e3 (Eq.refl (mI v_coded)) (Eq.refl (mI v_waits)) (Eq.refl (mA v_codes)) (t_k78 _ _ _))
    · refine tl_bd3 (t_pM_drops (Eq.refl (mI v_coded)) (Eq.refl (mI v_waits)) (Eq.refl (mA v_codes)) (Eq.refl (mA v_wait))) (fun v_coded_c3 v_waits_c3 v_codes_c3 => ?_)
      exact (tl_e3 (Eq.refl (mI v_coded_c3)) (Eq.refl (mI v_waits_c3)) (Eq.refl (mA v_codes_c3)) (t_self _ _ _))
  · exact (tl_e3 (Eq.refl (mI v_coded)) (Eq.refl (mI v_waits)) (Eq.refl (mA v_codes)) (t_k78 _ _ _))
theorem t_pM_sums_b53 {N N_j : Nat} (t_N : N = N_j) {v_end : Int32} {v_end_j : Int} (t_v_end : mI v_end = v_end_j) {v_debtWord : (Nat → Int32)} {v_debtWord_j : (Nat → Int)} (t_v_debtWord : mA v_debtWord = v_debtWord_j) {v_maxWord : (Nat → Int32)} {v_maxWord_j : (Nat → Int)} (t_v_maxWord : mA v_maxWord = v_maxWord_j) {v_minWord : (Nat → Int32)} {v_minWord_j : (Nat → Int)} (t_v_minWord : mA v_minWord = v_minWord_j) {v_paidWord : (Nat → Int32)} {v_paidWord_j : (Nat → Int)} (t_v_paidWord : mA v_paidWord = v_paidWord_j) {v_penceWord : (Nat → Int32)} {v_penceWord_j : (Nat → Int)} (t_v_penceWord : mA v_penceWord = v_penceWord_j) {v_poundsWord : (Nat → Int32)} {v_poundsWord_j : (Nat → Int)} (t_v_poundsWord : mA v_poundsWord = v_poundsWord_j) {v_shillingsWord : (Nat → Int32)} {v_shillingsWord_j : (Nat → Int)} (t_v_shillingsWord : mA v_shillingsWord = v_shillingsWord_j) {v_tape : (Nat → Int32)} {v_tape_j : (Nat → Int)} (t_v_tape : mA v_tape = v_tape_j) {v_termWord : (Nat → Int32)} {v_termWord_j : (Nat → Int)} (t_v_termWord : mA v_termWord = v_termWord_j) {v_yearWord : (Nat → Int32)} {v_yearWord_j : (Nat → Int)} (t_v_yearWord : mA v_yearWord = v_yearWord_j) {x1 : Int32} {x1_j : Int} (t_x1 : mI x1 = x1_j) {v_at : Int32} {v_at_j : Int} (t_v_at : mI v_at = v_at_j) {v_bad : Int32} {v_bad_j : Int} (t_v_bad : mI v_bad = v_bad_j) {v_badPlace : Int32} {v_badPlace_j : Int} (t_v_badPlace : mI v_badPlace = v_badPlace_j) {v_base : Int32} {v_base_j : Int} (t_v_base : mI v_base = v_base_j) {v_ended : Int32} {v_ended_j : Int} (t_v_ended : mI v_ended = v_ended_j) {v_open : Int32} {v_open_j : Int} (t_v_open : mI v_open = v_open_j) {v_wait : (Nat → Int32)} {v_wait_j : (Nat → Int)} (t_v_wait : mA v_wait = v_wait_j) {k78 : Int32 → Int32 → (Nat → Int32) → Option R_pM_sums} {k78_j : Int → Int → (Nat → Int) → Option R_iM_sums} (t_k78 : ∀ (q0_ : Int32) (q1_ : Int32) (q2_ : (Nat → Int32)), tl (mP mI (mP mI (mP mI (mP mI (mP mI (mP mI (mP mI (mP mI (mP mA mA))))))))) (k78_j (mI q0_) (mI q1_) (mA q2_)) (k78 q0_ q1_ q2_)) {n n_j : Nat} (t_n : n = n_j) {w0_ : Int32} {w0__j : Int} (t_w0_ : mI w0_ = w0__j) {w1_ : Int32} {w1__j : Int} (t_w1_ : mI w1_ = w1__j) {w2_ : (Nat → Int32)} {w2__j : (Nat → Int)} (t_w2_ : mA w2_ = w2__j) : tl (mP mI (mP mI (mP mI (mP mI (mP mI (mP mI (mP mI (mP mI (mP mA mA))))))))) (iM_sums_b53 N_j v_end_j v_debtWord_j v_maxWord_j v_minWord_j v_paidWord_j v_penceWord_j v_poundsWord_j v_shillingsWord_j v_tape_j v_termWord_j v_yearWord_j x1_j v_at_j v_bad_j v_badPlace_j v_base_j v_ended_j v_open_j v_wait_j k78_j n_j w0__j w1__j w2__j) (pM_sums_b53 N v_end v_debtWord v_maxWord v_minWord v_paidWord v_penceWord v_poundsWord v_shillingsWord v_tape v_termWord v_yearWord x1 v_at v_bad v_badPlace v_base v_ended v_open v_wait k78 n w0_ w1_ w2_) := by
  subst t_N
  subst t_v_end
  subst t_v_debtWord
  subst t_v_maxWord
  subst t_v_minWord
  subst t_v_paidWord
  subst t_v_penceWord
  subst t_v_poundsWord
  subst t_v_shillingsWord
  subst t_v_tape
  subst t_v_termWord
  subst t_v_yearWord
  subst t_x1
  subst t_v_at
  subst t_v_bad
  subst t_v_badPlace
  subst t_v_base
  subst t_v_ended
  subst t_v_open
  subst t_v_wait
  subst t_n
  subst t_w0_
  subst t_w1_
  subst t_w2_
  exact tl_zlp3 (fun s2 s hs w0_ w1_ w2_ => t_pM_sums_b53_F (Eq.refl N) (Eq.refl (mI v_end)) (Eq.refl (mA v_debtWord)) (Eq.refl (mA v_maxWord)) (Eq.refl (mA v_minWord)) (Eq.refl (mA v_paidWord)) (Eq.refl (mA v_penceWord)) (Eq.refl (mA v_poundsWord)) (Eq.refl (mA v_shillingsWord)) (Eq.refl (mA v_tape)) (Eq.refl (mA v_termWord)) (Eq.refl (mA v_yearWord)) (Eq.refl (mI x1)) (Eq.refl (mI v_at)) (Eq.refl (mI v_bad)) (Eq.refl (mI v_badPlace)) (Eq.refl (mI v_base)) (Eq.refl (mI v_ended)) (Eq.refl (mI v_open)) (Eq.refl (mA v_wait)) t_k78 hs (Eq.refl (mI w0_)) (Eq.refl (mI w1_)) (Eq.refl (mA w2_))) n w0_ w1_ w2_
theorem t_pM_sums_b78 {N N_j : Nat} (t_N : N = N_j) {v_end : Int32} {v_end_j : Int} (t_v_end : mI v_end = v_end_j) {v_debtWord : (Nat → Int32)} {v_debtWord_j : (Nat → Int)} (t_v_debtWord : mA v_debtWord = v_debtWord_j) {v_maxWord : (Nat → Int32)} {v_maxWord_j : (Nat → Int)} (t_v_maxWord : mA v_maxWord = v_maxWord_j) {v_minWord : (Nat → Int32)} {v_minWord_j : (Nat → Int)} (t_v_minWord : mA v_minWord = v_minWord_j) {v_paidWord : (Nat → Int32)} {v_paidWord_j : (Nat → Int)} (t_v_paidWord : mA v_paidWord = v_paidWord_j) {v_penceWord : (Nat → Int32)} {v_penceWord_j : (Nat → Int)} (t_v_penceWord : mA v_penceWord = v_penceWord_j) {v_poundsWord : (Nat → Int32)} {v_poundsWord_j : (Nat → Int)} (t_v_poundsWord : mA v_poundsWord = v_poundsWord_j) {v_shillingsWord : (Nat → Int32)} {v_shillingsWord_j : (Nat → Int)} (t_v_shillingsWord : mA v_shillingsWord = v_shillingsWord_j) {v_tape : (Nat → Int32)} {v_tape_j : (Nat → Int)} (t_v_tape : mA v_tape = v_tape_j) {v_termWord : (Nat → Int32)} {v_termWord_j : (Nat → Int)} (t_v_termWord : mA v_termWord = v_termWord_j) {v_yearWord : (Nat → Int32)} {v_yearWord_j : (Nat → Int)} (t_v_yearWord : mA v_yearWord = v_yearWord_j) {x1 : Int32} {x1_j : Int} (t_x1 : mI x1 = x1_j) {v_at : Int32} {v_at_j : Int} (t_v_at : mI v_at = v_at_j) {v_bad : Int32} {v_bad_j : Int} (t_v_bad : mI v_bad = v_bad_j) {v_badPlace : Int32} {v_badPlace_j : Int} (t_v_badPlace : mI v_badPlace = v_badPlace_j) {v_base : Int32} {v_base_j : Int} (t_v_base : mI v_base = v_base_j) {v_coded : Int32} {v_coded_j : Int} (t_v_coded : mI v_coded = v_coded_j) {v_ended : Int32} {v_ended_j : Int} (t_v_ended : mI v_ended = v_ended_j) {v_open : Int32} {v_open_j : Int} (t_v_open : mI v_open = v_open_j) {v_waits : Int32} {v_waits_j : Int} (t_v_waits : mI v_waits = v_waits_j) {v_codes : (Nat → Int32)} {v_codes_j : (Nat → Int)} (t_v_codes : mA v_codes = v_codes_j) {v_wait : (Nat → Int32)} {v_wait_j : (Nat → Int)} (t_v_wait : mA v_wait = v_wait_j) : tl (mP mI (mP mI (mP mI (mP mI (mP mI (mP mI (mP mI (mP mI (mP mA mA))))))))) (iM_sums_b78 N_j v_end_j v_debtWord_j v_maxWord_j v_minWord_j v_paidWord_j v_penceWord_j v_poundsWord_j v_shillingsWord_j v_tape_j v_termWord_j v_yearWord_j x1_j v_at_j v_bad_j v_badPlace_j v_base_j v_coded_j v_ended_j v_open_j v_waits_j v_codes_j v_wait_j) (pM_sums_b78 N v_end v_debtWord v_maxWord v_minWord v_paidWord v_penceWord v_poundsWord v_shillingsWord v_tape v_termWord v_yearWord x1 v_at v_bad v_badPlace v_base v_coded v_ended v_open v_waits v_codes v_wait) := by
  subst t_N
  subst t_v_end
  subst t_v_debtWord
  subst t_v_maxWord
  subst t_v_minWord
  subst t_v_paidWord
  subst t_v_penceWord
  subst t_v_poundsWord
  subst t_v_shillingsWord
  subst t_v_tape
  subst t_v_termWord
  subst t_v_yearWord
  subst t_x1
  subst t_v_at
  subst t_v_bad
  subst t_v_badPlace
  subst t_v_base
  subst t_v_coded
  subst t_v_ended
  subst t_v_open
  subst t_v_waits
  subst t_v_codes
  subst t_v_wait
  unfold iM_sums_b78 pM_sums_b78
  exact (tl_some (jp2 (Eq.refl (mI v_at)) (jp2 (Eq.refl (mI v_bad)) (jp2 (Eq.refl (mI v_badPlace)) (jp2 (Eq.refl (mI x1)) (jp2 (Eq.refl (mI v_coded)) (jp2 (Eq.refl (mI v_ended)) (jp2 (Eq.refl (mI v_open)) (jp2 (Eq.refl (mI v_waits)) (jp2 (Eq.refl (mA v_codes)) (Eq.refl (mA v_wait))))))))))))
theorem t_pM_sums {N N_j : Nat} (t_N : N = N_j) {v_at : Int32} {v_at_j : Int} (t_v_at : mI v_at = v_at_j) {v_bad : Int32} {v_bad_j : Int} (t_v_bad : mI v_bad = v_bad_j) {v_badPlace : Int32} {v_badPlace_j : Int} (t_v_badPlace : mI v_badPlace = v_badPlace_j) {v_base : Int32} {v_base_j : Int} (t_v_base : mI v_base = v_base_j) {v_coded : Int32} {v_coded_j : Int} (t_v_coded : mI v_coded = v_coded_j) {v_end : Int32} {v_end_j : Int} (t_v_end : mI v_end = v_end_j) {v_ended : Int32} {v_ended_j : Int} (t_v_ended : mI v_ended = v_ended_j) {v_open : Int32} {v_open_j : Int} (t_v_open : mI v_open = v_open_j) {v_waits : Int32} {v_waits_j : Int} (t_v_waits : mI v_waits = v_waits_j) {v_codes : (Nat → Int32)} {v_codes_j : (Nat → Int)} (t_v_codes : mA v_codes = v_codes_j) {v_debtWord : (Nat → Int32)} {v_debtWord_j : (Nat → Int)} (t_v_debtWord : mA v_debtWord = v_debtWord_j) {v_maxWord : (Nat → Int32)} {v_maxWord_j : (Nat → Int)} (t_v_maxWord : mA v_maxWord = v_maxWord_j) {v_minWord : (Nat → Int32)} {v_minWord_j : (Nat → Int)} (t_v_minWord : mA v_minWord = v_minWord_j) {v_paidWord : (Nat → Int32)} {v_paidWord_j : (Nat → Int)} (t_v_paidWord : mA v_paidWord = v_paidWord_j) {v_penceWord : (Nat → Int32)} {v_penceWord_j : (Nat → Int)} (t_v_penceWord : mA v_penceWord = v_penceWord_j) {v_poundsWord : (Nat → Int32)} {v_poundsWord_j : (Nat → Int)} (t_v_poundsWord : mA v_poundsWord = v_poundsWord_j) {v_shillingsWord : (Nat → Int32)} {v_shillingsWord_j : (Nat → Int)} (t_v_shillingsWord : mA v_shillingsWord = v_shillingsWord_j) {v_tape : (Nat → Int32)} {v_tape_j : (Nat → Int)} (t_v_tape : mA v_tape = v_tape_j) {v_termWord : (Nat → Int32)} {v_termWord_j : (Nat → Int)} (t_v_termWord : mA v_termWord = v_termWord_j) {v_wait : (Nat → Int32)} {v_wait_j : (Nat → Int)} (t_v_wait : mA v_wait = v_wait_j) {v_yearWord : (Nat → Int32)} {v_yearWord_j : (Nat → Int)} (t_v_yearWord : mA v_yearWord = v_yearWord_j) : tl (mP mI (mP mI (mP mI (mP mI (mP mI (mP mI (mP mI (mP mI (mP mA mA))))))))) (iM_sums N_j v_at_j v_bad_j v_badPlace_j v_base_j v_coded_j v_end_j v_ended_j v_open_j v_waits_j v_codes_j v_debtWord_j v_maxWord_j v_minWord_j v_paidWord_j v_penceWord_j v_poundsWord_j v_shillingsWord_j v_tape_j v_termWord_j v_wait_j v_yearWord_j) (pM_sums N v_at v_bad v_badPlace v_base v_coded v_end v_ended v_open v_waits v_codes v_debtWord v_maxWord v_minWord v_paidWord v_penceWord v_poundsWord v_shillingsWord v_tape v_termWord v_wait v_yearWord) := by
  subst t_N
  subst t_v_at
  subst t_v_bad
  subst t_v_badPlace
  subst t_v_base
  subst t_v_coded
  subst t_v_end
  subst t_v_ended
  subst t_v_open
  subst t_v_waits
  subst t_v_codes
  subst t_v_debtWord
  subst t_v_maxWord
  subst t_v_minWord
  subst t_v_paidWord
  subst t_v_penceWord
  subst t_v_poundsWord
  subst t_v_shillingsWord
  subst t_v_tape
  subst t_v_termWord
  subst t_v_wait
  subst t_v_yearWord
  unfold iM_sums pM_sums
  exact (t_pM_sums_b15 (Eq.refl N) (Eq.refl (mI v_end)) (Eq.refl (mA v_debtWord)) (Eq.refl (mA v_maxWord)) (Eq.refl (mA v_minWord)) (Eq.refl (mA v_paidWord)) (Eq.refl (mA v_penceWord)) (Eq.refl (mA v_poundsWord)) (Eq.refl (mA v_shillingsWord)) (Eq.refl (mA v_tape)) (Eq.refl (mA v_termWord)) (Eq.refl (mA v_yearWord)) (Eq.refl (mI v_base)) (Eq.refl (mI v_waits)) (fun v_at_k1 v_bad_k2 v_badPlace_k3 v_coded_k4 v_ended_k5 v_open_k6 v_waits_k7 v_codes_k8 v_wait_k9 => by exact (t_pM_sums_b53 (Eq.refl N) (Eq.refl (mI v_end)) (Eq.refl (mA v_debtWord)) (Eq.refl (mA v_maxWord)) (Eq.refl (mA v_minWord)) (Eq.refl (mA v_paidWord)) (Eq.refl (mA v_penceWord)) (Eq.refl (mA v_poundsWord)) (Eq.refl (mA v_shillingsWord)) (Eq.refl (mA v_tape)) (Eq.refl (mA v_termWord)) (Eq.refl (mA v_yearWord)) (Eq.refl (mI v_base)) (Eq.refl (mI v_at_k1)) (Eq.refl (mI v_bad_k2)) (Eq.refl (mI v_badPlace_k3)) (Eq.refl (mI v_waits)) (Eq.refl (mI v_ended_k5)) (Eq.refl (mI v_open_k6)) (Eq.refl (mA v_wait_k9)) (fun v_coded_k10 v_waits_k11 v_codes_k12 => by exact (t_pM_sums_b78 (Eq.refl N) (Eq.refl (mI v_end)) (Eq.refl (mA v_debtWord)) (Eq.refl (mA v_maxWord)) (Eq.refl (mA v_minWord)) (Eq.refl (mA v_paidWord)) (Eq.refl (mA v_penceWord)) (Eq.refl (mA v_poundsWord)) (Eq.refl (mA v_shillingsWord)) (Eq.refl (mA v_tape)) (Eq.refl (mA v_termWord)) (Eq.refl (mA v_yearWord)) (Eq.refl (mI v_base)) (Eq.refl (mI v_at_k1)) (Eq.refl (mI v_bad_k2)) (Eq.refl (mI v_badPlace_k3)) (Eq.refl (mI v_waits)) (Eq.refl (mI v_coded_k10)) (Eq.refl (mI v_ended_k5)) (Eq.refl (mI v_open_k6)) (Eq.refl (mI v_waits_k11)) (Eq.refl (mA v_codes_k12)) (Eq.refl (mA v_wait_k9)))) (Eq.refl N) (Eq.refl (mI v_coded_k4)) (Eq.refl (mI v_waits_k7)) (Eq.refl (mA v_codes_k8)))) (Eq.refl N) jlitI_1 (Eq.refl (mI v_at)) (Eq.refl (mI v_bad)) (Eq.refl (mI v_badPlace)) (Eq.refl (mI v_coded)) (Eq.refl (mI v_ended)) (Eq.refl (mI v_open)) (Eq.refl (mI v_waits)) (Eq.refl (mA v_codes)) (Eq.refl (mA v_wait)))
theorem t_pM_fact_b128 {N N_j : Nat} (t_N : N = N_j) {v_end : Int32} {v_end_j : Int} (t_v_end : mI v_end = v_end_j) {v_allWord : (Nat → Int32)} {v_allWord_j : (Nat → Int)} (t_v_allWord : mA v_allWord = v_allWord_j) {v_debtWord : (Nat → Int32)} {v_debtWord_j : (Nat → Int)} (t_v_debtWord : mA v_debtWord = v_debtWord_j) {v_maxWord : (Nat → Int32)} {v_maxWord_j : (Nat → Int)} (t_v_maxWord : mA v_maxWord = v_maxWord_j) {v_minWord : (Nat → Int32)} {v_minWord_j : (Nat → Int)} (t_v_minWord : mA v_minWord = v_minWord_j) {v_paidWord : (Nat → Int32)} {v_paidWord_j : (Nat → Int)} (t_v_paidWord : mA v_paidWord = v_paidWord_j) {v_penceWord : (Nat → Int32)} {v_penceWord_j : (Nat → Int)} (t_v_penceWord : mA v_penceWord = v_penceWord_j) {v_poundsWord : (Nat → Int32)} {v_poundsWord_j : (Nat → Int)} (t_v_poundsWord : mA v_poundsWord = v_poundsWord_j) {v_shillingsWord : (Nat → Int32)} {v_shillingsWord_j : (Nat → Int)} (t_v_shillingsWord : mA v_shillingsWord = v_shillingsWord_j) {v_shireWord : (Nat → Int32)} {v_shireWord_j : (Nat → Int)} (t_v_shireWord : mA v_shireWord = v_shireWord_j) {v_tape : (Nat → Int32)} {v_tape_j : (Nat → Int)} (t_v_tape : mA v_tape = v_tape_j) {v_termWord : (Nat → Int32)} {v_termWord_j : (Nat → Int)} (t_v_termWord : mA v_termWord = v_termWord_j) {v_yearWord : (Nat → Int32)} {v_yearWord_j : (Nat → Int)} (t_v_yearWord : mA v_yearWord = v_yearWord_j) {s1 : Int32} {s1_j : Int} (t_s1 : mI s1 = s1_j) {v_at : Int32} {v_at_j : Int} (t_v_at : mI v_at = v_at_j) {v_bad : Int32} {v_bad_j : Int} (t_v_bad : mI v_bad = v_bad_j) {v_badPlace : Int32} {v_badPlace_j : Int} (t_v_badPlace : mI v_badPlace = v_badPlace_j) {v_base : Int32} {v_base_j : Int} (t_v_base : mI v_base = v_base_j) {v_coded : Int32} {v_coded_j : Int} (t_v_coded : mI v_coded = v_coded_j) {v_ended : Int32} {v_ended_j : Int} (t_v_ended : mI v_ended = v_ended_j) {v_open : Int32} {v_open_j : Int} (t_v_open : mI v_open = v_open_j) {v_waits : Int32} {v_waits_j : Int} (t_v_waits : mI v_waits = v_waits_j) {v_codes : (Nat → Int32)} {v_codes_j : (Nat → Int)} (t_v_codes : mA v_codes = v_codes_j) {v_wait : (Nat → Int32)} {v_wait_j : (Nat → Int)} (t_v_wait : mA v_wait = v_wait_j) : tl (mP mI (mP mI (mP mI (mP mI (mP mI (mP mI (mP mI (mP mI (mP mA mA))))))))) (iM_fact_b128 N_j v_end_j v_allWord_j v_debtWord_j v_maxWord_j v_minWord_j v_paidWord_j v_penceWord_j v_poundsWord_j v_shillingsWord_j v_shireWord_j v_tape_j v_termWord_j v_yearWord_j s1_j v_at_j v_bad_j v_badPlace_j v_base_j v_coded_j v_ended_j v_open_j v_waits_j v_codes_j v_wait_j) (pM_fact_b128 N v_end v_allWord v_debtWord v_maxWord v_minWord v_paidWord v_penceWord v_poundsWord v_shillingsWord v_shireWord v_tape v_termWord v_yearWord s1 v_at v_bad v_badPlace v_base v_coded v_ended v_open v_waits v_codes v_wait) := by
  subst t_N
  subst t_v_end
  subst t_v_allWord
  subst t_v_debtWord
  subst t_v_maxWord
  subst t_v_minWord
  subst t_v_paidWord
  subst t_v_penceWord
  subst t_v_poundsWord
  subst t_v_shillingsWord
  subst t_v_shireWord
  subst t_v_tape
  subst t_v_termWord
  subst t_v_yearWord
  subst t_s1
  subst t_v_at
  subst t_v_bad
  subst t_v_badPlace
  subst t_v_base
  subst t_v_coded
  subst t_v_ended
  subst t_v_open
  subst t_v_waits
  subst t_v_codes
  subst t_v_wait
  unfold iM_fact_b128 pM_fact_b128
  refine tl_bd2 (t_pM_code (Eq.refl (mI s1)) (Eq.refl (mI v_coded)) (Eq.refl (mA v_codes))) (fun v_coded_c10 v_codes_c10 => ?_)
  exact (tl_some (jp2 (Eq.refl (mI v_at)) (jp2 (Eq.refl (mI v_bad)) (jp2 (Eq.refl (mI v_badPlace)) (jp2 (Eq.refl (mI v_base)) (jp2 (Eq.refl (mI v_coded_c10)) (jp2 (Eq.refl (mI v_ended)) (jp2 (Eq.refl (mI v_open)) (jp2 (Eq.refl (mI v_waits)) (jp2 (Eq.refl (mA v_codes_c10)) (Eq.refl (mA v_wait))))))))))))
theorem t_pM_fact_b89 {N N_j : Nat} (t_N : N = N_j) {v_end : Int32} {v_end_j : Int} (t_v_end : mI v_end = v_end_j) {v_allWord : (Nat → Int32)} {v_allWord_j : (Nat → Int)} (t_v_allWord : mA v_allWord = v_allWord_j) {v_debtWord : (Nat → Int32)} {v_debtWord_j : (Nat → Int)} (t_v_debtWord : mA v_debtWord = v_debtWord_j) {v_maxWord : (Nat → Int32)} {v_maxWord_j : (Nat → Int)} (t_v_maxWord : mA v_maxWord = v_maxWord_j) {v_minWord : (Nat → Int32)} {v_minWord_j : (Nat → Int)} (t_v_minWord : mA v_minWord = v_minWord_j) {v_paidWord : (Nat → Int32)} {v_paidWord_j : (Nat → Int)} (t_v_paidWord : mA v_paidWord = v_paidWord_j) {v_penceWord : (Nat → Int32)} {v_penceWord_j : (Nat → Int)} (t_v_penceWord : mA v_penceWord = v_penceWord_j) {v_poundsWord : (Nat → Int32)} {v_poundsWord_j : (Nat → Int)} (t_v_poundsWord : mA v_poundsWord = v_poundsWord_j) {v_shillingsWord : (Nat → Int32)} {v_shillingsWord_j : (Nat → Int)} (t_v_shillingsWord : mA v_shillingsWord = v_shillingsWord_j) {v_shireWord : (Nat → Int32)} {v_shireWord_j : (Nat → Int)} (t_v_shireWord : mA v_shireWord = v_shireWord_j) {v_tape : (Nat → Int32)} {v_tape_j : (Nat → Int)} (t_v_tape : mA v_tape = v_tape_j) {v_termWord : (Nat → Int32)} {v_termWord_j : (Nat → Int)} (t_v_termWord : mA v_termWord = v_termWord_j) {v_yearWord : (Nat → Int32)} {v_yearWord_j : (Nat → Int)} (t_v_yearWord : mA v_yearWord = v_yearWord_j) {x1 : Int32} {x1_j : Int} (t_x1 : mI x1 = x1_j) {v_at : Int32} {v_at_j : Int} (t_v_at : mI v_at = v_at_j) {v_bad : Int32} {v_bad_j : Int} (t_v_bad : mI v_bad = v_bad_j) {v_badPlace : Int32} {v_badPlace_j : Int} (t_v_badPlace : mI v_badPlace = v_badPlace_j) {v_base : Int32} {v_base_j : Int} (t_v_base : mI v_base = v_base_j) {v_coded : Int32} {v_coded_j : Int} (t_v_coded : mI v_coded = v_coded_j) {v_ended : Int32} {v_ended_j : Int} (t_v_ended : mI v_ended = v_ended_j) {v_open : Int32} {v_open_j : Int} (t_v_open : mI v_open = v_open_j) {v_waits : Int32} {v_waits_j : Int} (t_v_waits : mI v_waits = v_waits_j) {v_codes : (Nat → Int32)} {v_codes_j : (Nat → Int)} (t_v_codes : mA v_codes = v_codes_j) {v_wait : (Nat → Int32)} {v_wait_j : (Nat → Int)} (t_v_wait : mA v_wait = v_wait_j) : tl (mP mI (mP mI (mP mI (mP mI (mP mI (mP mI (mP mI (mP mI (mP mA mA))))))))) (iM_fact_b89 N_j v_end_j v_allWord_j v_debtWord_j v_maxWord_j v_minWord_j v_paidWord_j v_penceWord_j v_poundsWord_j v_shillingsWord_j v_shireWord_j v_tape_j v_termWord_j v_yearWord_j x1_j v_at_j v_bad_j v_badPlace_j v_base_j v_coded_j v_ended_j v_open_j v_waits_j v_codes_j v_wait_j) (pM_fact_b89 N v_end v_allWord v_debtWord v_maxWord v_minWord v_paidWord v_penceWord v_poundsWord v_shillingsWord v_shireWord v_tape v_termWord v_yearWord x1 v_at v_bad v_badPlace v_base v_coded v_ended v_open v_waits v_codes v_wait) := by
  subst t_N
  subst t_v_end
  subst t_v_allWord
  subst t_v_debtWord
  subst t_v_maxWord
  subst t_v_minWord
  subst t_v_paidWord
  subst t_v_penceWord
  subst t_v_poundsWord
  subst t_v_shillingsWord
  subst t_v_shireWord
  subst t_v_tape
  subst t_v_termWord
  subst t_v_yearWord
  subst t_x1
  subst t_v_at
  subst t_v_bad
  subst t_v_badPlace
  subst t_v_base
  subst t_v_coded
  subst t_v_ended
  subst t_v_open
  subst t_v_waits
  subst t_v_codes
  subst t_v_wait
  unfold iM_fact_b89 pM_fact_b89
  refine tl_g (fun h1 => ?_)
  refine tl_bd10 (t_pM_sums (Eq.refl N) (ja_add (Eq.refl (mI v_at)) jlitI_1 h1) (Eq.refl (mI v_bad)) (Eq.refl (mI v_badPlace)) (Eq.refl (mI v_base)) (Eq.refl (mI v_coded)) (Eq.refl (mI v_end)) (Eq.refl (mI v_ended)) (Eq.refl (mI v_open)) (Eq.refl (mI v_waits)) (Eq.refl (mA v_codes)) (Eq.refl (mA v_debtWord)) (Eq.refl (mA v_maxWord)) (Eq.refl (mA v_minWord)) (Eq.refl (mA v_paidWord)) (Eq.refl (mA v_penceWord)) (Eq.refl (mA v_poundsWord)) (Eq.refl (mA v_shillingsWord)) (Eq.refl (mA v_tape)) (Eq.refl (mA v_termWord)) (Eq.refl (mA v_wait)) (Eq.refl (mA v_yearWord))) (fun v_at_c9 v_bad_c9 v_badPlace_c9 v_base_c9 v_coded_c9 v_ended_c9 v_open_c9 v_waits_c9 v_codes_c9 v_wait_c9 => ?_)
  refine tl_ite (jc_eq (Eq.refl (mI x1)) jlitI_60) ?_ ?_
  · exact (t_pM_fact_b128 (Eq.refl N) (Eq.refl (mI v_end)) (Eq.refl (mA v_allWord)) (Eq.refl (mA v_debtWord)) (Eq.refl (mA v_maxWord)) (Eq.refl (mA v_minWord)) (Eq.refl (mA v_paidWord)) (Eq.refl (mA v_penceWord)) (Eq.refl (mA v_poundsWord)) (Eq.refl (mA v_shillingsWord)) (Eq.refl (mA v_shireWord)) (Eq.refl (mA v_tape)) (Eq.refl (mA v_termWord)) (Eq.refl (mA v_yearWord)) jlitI_11 (Eq.refl (mI v_at_c9)) (Eq.refl (mI v_bad_c9)) (Eq.refl (mI v_badPlace_c9)) (Eq.refl (mI v_base_c9)) (Eq.refl (mI v_coded_c9)) (Eq.refl (mI v_ended_c9)) (Eq.refl (mI v_open_c9)) (Eq.refl (mI v_waits_c9)) (Eq.refl (mA v_codes_c9)) (Eq.refl (mA v_wait_c9)))
  · refine tl_ite (jc_eq (Eq.refl (mI x1)) jlitI_62) ?_ ?_
    · exact (t_pM_fact_b128 (Eq.refl N) (Eq.refl (mI v_end)) (Eq.refl (mA v_allWord)) (Eq.refl (mA v_debtWord)) (Eq.refl (mA v_maxWord)) (Eq.refl (mA v_minWord)) (Eq.refl (mA v_paidWord)) (Eq.refl (mA v_penceWord)) (Eq.refl (mA v_poundsWord)) (Eq.refl (mA v_shillingsWord)) (Eq.refl (mA v_shireWord)) (Eq.refl (mA v_tape)) (Eq.refl (mA v_termWord)) (Eq.refl (mA v_yearWord)) jlitI_12 (Eq.refl (mI v_at_c9)) (Eq.refl (mI v_bad_c9)) (Eq.refl (mI v_badPlace_c9)) (Eq.refl (mI v_base_c9)) (Eq.refl (mI v_coded_c9)) (Eq.refl (mI v_ended_c9)) (Eq.refl (mI v_open_c9)) (Eq.refl (mI v_waits_c9)) (Eq.refl (mA v_codes_c9)) (Eq.refl (mA v_wait_c9)))
    · exact (t_pM_fact_b128 (Eq.refl N) (Eq.refl (mI v_end)) (Eq.refl (mA v_allWord)) (Eq.refl (mA v_debtWord)) (Eq.refl (mA v_maxWord)) (Eq.refl (mA v_minWord)) (Eq.refl (mA v_paidWord)) (Eq.refl (mA v_penceWord)) (Eq.refl (mA v_poundsWord)) (Eq.refl (mA v_shillingsWord)) (Eq.refl (mA v_shireWord)) (Eq.refl (mA v_tape)) (Eq.refl (mA v_termWord)) (Eq.refl (mA v_yearWord)) jlitI_13 (Eq.refl (mI v_at_c9)) (Eq.refl (mI v_bad_c9)) (Eq.refl (mI v_badPlace_c9)) (Eq.refl (mI v_base_c9)) (Eq.refl (mI v_coded_c9)) (Eq.refl (mI v_ended_c9)) (Eq.refl (mI v_open_c9)) (Eq.refl (mI v_waits_c9)) (Eq.refl (mA v_codes_c9)) (Eq.refl (mA v_wait_c9)))
theorem t_pM_fact {N N_j : Nat} (t_N : N = N_j) {v_at : Int32} {v_at_j : Int} (t_v_at : mI v_at = v_at_j) {v_bad : Int32} {v_bad_j : Int} (t_v_bad : mI v_bad = v_bad_j) {v_badPlace : Int32} {v_badPlace_j : Int} (t_v_badPlace : mI v_badPlace = v_badPlace_j) {v_base : Int32} {v_base_j : Int} (t_v_base : mI v_base = v_base_j) {v_coded : Int32} {v_coded_j : Int} (t_v_coded : mI v_coded = v_coded_j) {v_end : Int32} {v_end_j : Int} (t_v_end : mI v_end = v_end_j) {v_ended : Int32} {v_ended_j : Int} (t_v_ended : mI v_ended = v_ended_j) {v_open : Int32} {v_open_j : Int} (t_v_open : mI v_open = v_open_j) {v_waits : Int32} {v_waits_j : Int} (t_v_waits : mI v_waits = v_waits_j) {v_allWord : (Nat → Int32)} {v_allWord_j : (Nat → Int)} (t_v_allWord : mA v_allWord = v_allWord_j) {v_codes : (Nat → Int32)} {v_codes_j : (Nat → Int)} (t_v_codes : mA v_codes = v_codes_j) {v_debtWord : (Nat → Int32)} {v_debtWord_j : (Nat → Int)} (t_v_debtWord : mA v_debtWord = v_debtWord_j) {v_maxWord : (Nat → Int32)} {v_maxWord_j : (Nat → Int)} (t_v_maxWord : mA v_maxWord = v_maxWord_j) {v_minWord : (Nat → Int32)} {v_minWord_j : (Nat → Int)} (t_v_minWord : mA v_minWord = v_minWord_j) {v_paidWord : (Nat → Int32)} {v_paidWord_j : (Nat → Int)} (t_v_paidWord : mA v_paidWord = v_paidWord_j) {v_penceWord : (Nat → Int32)} {v_penceWord_j : (Nat → Int)} (t_v_penceWord : mA v_penceWord = v_penceWord_j) {v_poundsWord : (Nat → Int32)} {v_poundsWord_j : (Nat → Int)} (t_v_poundsWord : mA v_poundsWord = v_poundsWord_j) {v_shillingsWord : (Nat → Int32)} {v_shillingsWord_j : (Nat → Int)} (t_v_shillingsWord : mA v_shillingsWord = v_shillingsWord_j) {v_shireWord : (Nat → Int32)} {v_shireWord_j : (Nat → Int)} (t_v_shireWord : mA v_shireWord = v_shireWord_j) {v_tape : (Nat → Int32)} {v_tape_j : (Nat → Int)} (t_v_tape : mA v_tape = v_tape_j) {v_termWord : (Nat → Int32)} {v_termWord_j : (Nat → Int)} (t_v_termWord : mA v_termWord = v_termWord_j) {v_wait : (Nat → Int32)} {v_wait_j : (Nat → Int)} (t_v_wait : mA v_wait = v_wait_j) {v_yearWord : (Nat → Int32)} {v_yearWord_j : (Nat → Int)} (t_v_yearWord : mA v_yearWord = v_yearWord_j) : tl (mP mI (mP mI (mP mI (mP mI (mP mI (mP mI (mP mI (mP mI (mP mA mA))))))))) (iM_fact N_j v_at_j v_bad_j v_badPlace_j v_base_j v_coded_j v_end_j v_ended_j v_open_j v_waits_j v_allWord_j v_codes_j v_debtWord_j v_maxWord_j v_minWord_j v_paidWord_j v_penceWord_j v_poundsWord_j v_shillingsWord_j v_shireWord_j v_tape_j v_termWord_j v_wait_j v_yearWord_j) (pM_fact N v_at v_bad v_badPlace v_base v_coded v_end v_ended v_open v_waits v_allWord v_codes v_debtWord v_maxWord v_minWord v_paidWord v_penceWord v_poundsWord v_shillingsWord v_shireWord v_tape v_termWord v_wait v_yearWord) := by
  subst t_N
  subst t_v_at
  subst t_v_bad
  subst t_v_badPlace
  subst t_v_base
  subst t_v_coded
  subst t_v_end
  subst t_v_ended
  subst t_v_open
  subst t_v_waits
  subst t_v_allWord
  subst t_v_codes
  subst t_v_debtWord
  subst t_v_maxWord
  subst t_v_minWord
  subst t_v_paidWord
  subst t_v_penceWord
  subst t_v_poundsWord
  subst t_v_shillingsWord
  subst t_v_shireWord
  subst t_v_tape
  subst t_v_termWord
  subst t_v_wait
  subst t_v_yearWord
  unfold iM_fact pM_fact
  refine tl_bd3 (t_pM_takes (Eq.refl N) (Eq.refl _) (Eq.refl (mA v_allWord)) (Eq.refl (mI v_at)) (Eq.refl (mI v_bad)) (Eq.refl (mI v_end)) (Eq.refl (mI v_ended)) (Eq.refl (mA v_tape))) (fun rc1 v_at_c1 v_ended_c1 => ?_)
  refine tl_ite (jc_eq (Eq.refl (mI rc1)) jlitI_0) ?_ ?_
  · refine tl_bd3 (t_pM_takes (Eq.refl N) (Eq.refl _) (Eq.refl (mA v_shireWord)) (Eq.refl (mI v_at_c1)) (Eq.refl (mI v_bad)) (Eq.refl (mI v_end)) (Eq.refl (mI v_ended_c1)) (Eq.refl (mA v_tape))) (fun rc2 v_at_c2 v_ended_c2 => ?_)
    refine tl_ite (jc_eq (Eq.refl (mI rc2)) jlitI_0) ?_ ?_
    · refine tl_bd10 (t_pM_sums (Eq.refl N) (Eq.refl (mI v_at_c2)) (Eq.refl (mI v_bad)) (Eq.refl (mI v_badPlace)) (Eq.refl (mI v_base)) (Eq.refl (mI v_coded)) (Eq.refl (mI v_end)) (Eq.refl (mI v_ended_c2)) (Eq.refl (mI v_open)) (Eq.refl (mI v_waits)) (Eq.refl (mA v_codes)) (Eq.refl (mA v_debtWord)) (Eq.refl (mA v_maxWord)) (Eq.refl (mA v_minWord)) (Eq.refl (mA v_paidWord)) (Eq.refl (mA v_penceWord)) (Eq.refl (mA v_poundsWord)) (Eq.refl (mA v_shillingsWord)) (Eq.refl (mA v_tape)) (Eq.refl (mA v_termWord)) (Eq.refl (mA v_wait)) (Eq.refl (mA v_yearWord))) (fun v_at_c3 v_bad_c3 v_badPlace_c3 v_base_c3 v_coded_c3 v_ended_c3 v_open_c3 v_waits_c3 v_codes_c3 v_wait_c3 => ?_)
      refine tl_ite (jc_eq (Eq.refl (mI v_bad_c3)) jlitI_0) ?_ ?_
      · refine tl_bd2 (t_pM_look (Eq.refl N) (Eq.refl (mI v_at_c3)) (Eq.refl (mI v_end)) (Eq.refl (mA v_tape))) (fun rc4 v_at_c4 => ?_)
        refine tl_ite (jc_eq (Eq.refl (mI rc4)) jlitI_60) ?_ ?_
        · exact (t_pM_fact_b89 (Eq.refl N) (Eq.refl (mI v_end)) (Eq.refl (mA v_allWord)) (Eq.refl (mA v_debtWord)) (Eq.refl (mA v_maxWord)) (Eq.refl (mA v_minWord)) (Eq.refl (mA v_paidWord)) (Eq.refl (mA v_penceWord)) (Eq.refl (mA v_poundsWord)) (Eq.refl (mA v_shillingsWord)) (Eq.refl (mA v_shireWord)) (Eq.refl (mA v_tape)) (Eq.refl (mA v_termWord)) (Eq.refl (mA v_yearWord)) (Eq.refl (mI rc4)) (Eq.refl (mI v_at_c4)) (Eq.refl (mI v_bad_c3)) (Eq.refl (mI v_badPlace_c3)) (Eq.refl (mI v_base_c3)) (Eq.refl (mI v_coded_c3)) (Eq.refl (mI v_ended_c3)) (Eq.refl (mI v_open_c3)) (Eq.refl (mI v_waits_c3)) (Eq.refl (mA v_codes_c3)) (Eq.refl (mA v_wait_c3)))
        · refine tl_ite (jc_eq (Eq.refl (mI rc4)) jlitI_62) ?_ ?_
          · exact (t_pM_fact_b89 (Eq.refl N) (Eq.refl (mI v_end)) (Eq.refl (mA v_allWord)) (Eq.refl (mA v_debtWord)) (Eq.refl (mA v_maxWord)) (Eq.refl (mA v_minWord)) (Eq.refl (mA v_paidWord)) (Eq.refl (mA v_penceWord)) (Eq.refl (mA v_poundsWord)) (Eq.refl (mA v_shillingsWord)) (Eq.refl (mA v_shireWord)) (Eq.refl (mA v_tape)) (Eq.refl (mA v_termWord)) (Eq.refl (mA v_yearWord)) (Eq.refl (mI rc4)) (Eq.refl (mI v_at_c4)) (Eq.refl (mI v_bad_c3)) (Eq.refl (mI v_badPlace_c3)) (Eq.refl (mI v_base_c3)) (Eq.refl (mI v_coded_c3)) (Eq.refl (mI v_ended_c3)) (Eq.refl (mI v_open_c3)) (Eq.refl (mI v_waits_c3)) (Eq.refl (mA v_codes_c3)) (Eq.refl (mA v_wait_c3)))
          · refine tl_ite (jc_eq (Eq.refl (mI rc4)) jlitI_61) ?_ ?_
            · exact (t_pM_fact_b89 (Eq.refl N) (Eq.refl (mI v_end)) (Eq.refl (mA v_allWord)) (Eq.refl (mA v_debtWord)) (Eq.refl (mA v_maxWord)) (Eq.refl (mA v_minWord)) (Eq.refl (mA v_paidWord)) (Eq.refl (mA v_penceWord)) (Eq.refl (mA v_poundsWord)) (Eq.refl (mA v_shillingsWord)) (Eq.refl (mA v_shireWord)) (Eq.refl (mA v_tape)) (Eq.refl (mA v_termWord)) (Eq.refl (mA v_yearWord)) (Eq.refl (mI rc4)) (Eq.refl (mI v_at_c4)) (Eq.refl (mI v_bad_c3)) (Eq.refl (mI v_badPlace_c3)) (Eq.refl (mI v_base_c3)) (Eq.refl (mI v_coded_c3)) (Eq.refl (mI v_ended_c3)) (Eq.refl (mI v_open_c3)) (Eq.refl (mI v_waits_c3)) (Eq.refl (mA v_codes_c3)) (Eq.refl (mA v_wait_c3)))
            · refine tl_bd2 (t_pM_fail jlitI_1 (Eq.refl (mI v_at_c4)) (Eq.refl (mI v_bad_c3)) (Eq.refl (mI v_badPlace_c3))) (fun v_bad_c5 v_badPlace_c5 => ?_)
              exact (tl_some (jp2 (Eq.refl (mI v_at_c4)) (jp2 (Eq.refl (mI v_bad_c5)) (jp2 (Eq.refl (mI v_badPlace_c5)) (jp2 (Eq.refl (mI v_base_c3)) (jp2 (Eq.refl (mI v_coded_c3)) (jp2 (Eq.refl (mI v_ended_c3)) (jp2 (Eq.refl (mI v_open_c3)) (jp2 (Eq.refl (mI v_waits_c3)) (jp2 (Eq.refl (mA v_codes_c3)) (Eq.refl (mA v_wait_c3))))))))))))
      · exact (tl_some (jp2 (Eq.refl (mI v_at_c3)) (jp2 (Eq.refl (mI v_bad_c3)) (jp2 (Eq.refl (mI v_badPlace_c3)) (jp2 (Eq.refl (mI v_base_c3)) (jp2 (Eq.refl (mI v_coded_c3)) (jp2 (Eq.refl (mI v_ended_c3)) (jp2 (Eq.refl (mI v_open_c3)) (jp2 (Eq.refl (mI v_waits_c3)) (jp2 (Eq.refl (mA v_codes_c3)) (Eq.refl (mA v_wait_c3))))))))))))
    · refine tl_bd5 (t_pM_number (Eq.refl N) jlitI_0 jlitI_7 (Eq.refl (mI v_at_c2)) (Eq.refl (mI v_bad)) (Eq.refl (mI v_badPlace)) (Eq.refl (mI v_end)) (Eq.refl (mI v_ended_c2)) (Eq.refl (mA v_tape))) (fun rc6 v_at_c6 v_bad_c6 v_badPlace_c6 v_ended_c6 => ?_)
      refine tl_g (fun h1 => ?_)
      refine tl_bd2 (t_pM_code (ja_add jlitI_100 (Eq.refl (mI rc6)) h1) (Eq.refl (mI v_coded)) (Eq.refl (mA v_codes))) (fun v_coded_c7 v_codes_c7 => ?_)
      exact (tl_some (jp2 (Eq.refl (mI v_at_c6)) (jp2 (Eq.refl (mI v_bad_c6)) (jp2 (Eq.refl (mI v_badPlace_c6)) (jp2 (Eq.refl (mI v_base)) (jp2 (Eq.refl (mI v_coded_c7)) (jp2 (Eq.refl (mI v_ended_c6)) (jp2 (Eq.refl (mI v_open)) (jp2 (Eq.refl (mI v_waits)) (jp2 (Eq.refl (mA v_codes_c7)) (Eq.refl (mA v_wait))))))))))))
  · refine tl_bd2 (t_pM_code jlitI_17 (Eq.refl (mI v_coded)) (Eq.refl (mA v_codes))) (fun v_coded_c8 v_codes_c8 => ?_)
    exact (tl_some (jp2 (Eq.refl (mI v_at_c1)) (jp2 (Eq.refl (mI v_bad)) (jp2 (Eq.refl (mI v_badPlace)) (jp2 (Eq.refl (mI v_base)) (jp2 (Eq.refl (mI v_coded_c8)) (jp2 (Eq.refl (mI v_ended_c1)) (jp2 (Eq.refl (mI v_open)) (jp2 (Eq.refl (mI v_waits)) (jp2 (Eq.refl (mA v_codes_c8)) (Eq.refl (mA v_wait))))))))))))
