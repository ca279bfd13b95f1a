set_option maxHeartbeats 4000000
set_option maxRecDepth 100000
theorem t_pM_hasSquare_b2_F {N N_j : Nat} (t_N : N = N_j) {v_waits : Int32} {v_waits_j : Int} (t_v_waits : mI v_waits = v_waits_j) {v_wait : (Nat → Int32)} {v_wait_j : (Nat → Int)} (t_v_wait : mA v_wait = v_wait_j) {self : Int32 → Option R_pM_hasSquare} {self_j : Int → Option Int} (t_self : ∀ (q0_ : Int32), tl (mI) (self_j (mI q0_)) (self q0_)) {x1 : Int32} {x1_j : Int} (t_x1 : mI x1 = x1_j) : tl (mI) (iM_hasSquare_b2_F N_j v_waits_j v_wait_j self_j x1_j) (pM_hasSquare_b2_F N v_waits v_wait self x1) := by
  subst t_N
  subst t_v_waits
  subst t_v_wait
  subst t_x1
  unfold iM_hasSquare_b2_F pM_hasSquare_b2_F
  refine tl_ite (jc_le (Eq.refl (mI v_waits)) (Eq.refl (mI x1))) ?_ ?_
  · exact (tl_some jlitI_0)
  · refine tl_gd (jg_ib (Eq.refl (mI x1))) (fun _ => ?_)
    refine tl_ite (jc_eq (jrd (Eq.refl (mA v_wait)) (jx (Eq.refl (mI x1)))) jlitI_25) ?_ ?_
    · exact (tl_some jlitI_1)
    · refine tl_g (fun h1 => ?_)
      exact (tl_e1 (ja_add (Eq.refl (mI x1)) jlitI_1 h1) (t_self _))
theorem t_pM_hasSquare_b2 {N N_j : Nat} (t_N : N = N_j) {v_waits : Int32} {v_waits_j : Int} (t_v_waits : mI v_waits = v_waits_j) {v_wait : (Nat → Int32)} {v_wait_j : (Nat → Int)} (t_v_wait : mA v_wait = v_wait_j) {n n_j : Nat} (t_n : n = n_j) {w0_ : Int32} {w0__j : Int} (t_w0_ : mI w0_ = w0__j) : tl (mI) (iM_hasSquare_b2 N_j v_waits_j v_wait_j n_j w0__j) (pM_hasSquare_b2 N v_waits v_wait n w0_) := by
  subst t_N
  subst t_v_waits
  subst t_v_wait
  subst t_n
  subst t_w0_
  exact tl_zlp1 (fun s2 s hs w0_ => t_pM_hasSquare_b2_F (Eq.refl N) (Eq.refl (mI v_waits)) (Eq.refl (mA v_wait)) hs (Eq.refl (mI w0_))) n w0_
theorem t_pM_hasSquare {N N_j : Nat} (t_N : N = N_j) {v_waits : Int32} {v_waits_j : Int} (t_v_waits : mI v_waits = v_waits_j) {v_wait : (Nat → Int32)} {v_wait_j : (Nat → Int)} (t_v_wait : mA v_wait = v_wait_j) : tl (mI) (iM_hasSquare N_j v_waits_j v_wait_j) (pM_hasSquare N v_waits v_wait) := by
  subst t_N
  subst t_v_waits
  subst t_v_wait
  unfold iM_hasSquare pM_hasSquare
  exact (t_pM_hasSquare_b2 (Eq.refl N) (Eq.refl (mI v_waits)) (Eq.refl (mA v_wait)) (Eq.refl N) jlitI_0)
theorem t_pM_dropsNots_b0_F {N N_j : Nat} (t_N : N = N_j) {v_bad : Int32} {v_bad_j : Int} (t_v_bad : mI v_bad = v_bad_j) {v_wait : (Nat → Int32)} {v_wait_j : (Nat → Int)} (t_v_wait : mA v_wait = v_wait_j) {self : Int32 → Int32 → Int32 → (Nat → Int32) → Option R_pM_dropsNots} {self_j : Int → Int → Int → (Nat → Int) → Option R_iM_dropsNots} (t_self : ∀ (q0_ : Int32) (q1_ : Int32) (q2_ : Int32) (q3_ : (Nat → Int32)), tl (mP mI (mP mI (mP mI mA))) (self_j (mI q0_) (mI q1_) (mI q2_) (mA q3_)) (self q0_ q1_ q2_ q3_)) {v_coded : Int32} {v_coded_j : Int} (t_v_coded : mI v_coded = v_coded_j) {v_open : Int32} {v_open_j : Int} (t_v_open : mI v_open = v_open_j) {v_waits : Int32} {v_waits_j : Int} (t_v_waits : mI v_waits = v_waits_j) {v_codes : (Nat → Int32)} {v_codes_j : (Nat → Int)} (t_v_codes : mA v_codes = v_codes_j) : tl (mP mI (mP mI (mP mI mA))) (iM_dropsNots_b0_F N_j v_bad_j v_wait_j self_j v_coded_j v_open_j v_waits_j v_codes_j) (pM_dropsNots_b0_F N v_bad v_wait self v_coded v_open v_waits v_codes) := by
  subst t_N
  subst t_v_bad
  subst t_v_wait
  subst t_v_coded
  subst t_v_open
  subst t_v_waits
  subst t_v_codes
  unfold iM_dropsNots_b0_F pM_dropsNots_b0_F
  refine tl_ite (jc_eq (Eq.refl (mI v_bad)) jlitI_0) ?_ ?_
  · refine tl_bd1 (t_pM_isOn jlitI_16 (Eq.refl (mI v_waits)) (Eq.refl (mA v_wait))) (fun rc1 => ?_)
    refine tl_ite (jc_eq (Eq.refl (mI rc1)) jlitI_0) ?_ ?_
    · exact (tl_some (jp2 (Eq.refl (mI v_coded)) (jp2 (Eq.refl (mI v_open)) (jp2 (Eq.refl (mI v_waits)) (Eq.refl (mA v_codes))))))
    · refine tl_bd3 (t_pM_drops (Eq.refl (mI v_coded)) (Eq.refl (mI v_waits)) (Eq.refl (mA v_codes)) (Eq.refl (mA v_wait))) (fun v_coded_c2 v_waits_c2 v_codes_c2 => ?_)
      refine tl_g (fun h1 => ?_)
      exact (tl_e4 (Eq.refl (mI v_coded_c2)) (ja_sub (Eq.refl (mI v_open)) jlitI_1 h1) (Eq.refl (mI v_waits_c2)) (Eq.refl (mA v_codes_c2)) (t_self _ _ _ _))
  · exact (tl_some (jp2 (Eq.refl (mI v_coded)) (jp2 (Eq.refl (mI v_open)) (jp2 (Eq.refl (mI v_waits)) (Eq.refl (mA v_codes))))))
theorem t_pM_dropsNots_b0 {N N_j : Nat} (t_N : N = N_j) {v_bad : Int32} {v_bad_j : Int} (t_v_bad : mI v_bad = v_bad_j) {v_wait : (Nat → Int32)} {v_wait_j : (Nat → Int)} (t_v_wait : mA v_wait = v_wait_j) {n n_j : Nat} (t_n : n = n_j) {w0_ : Int32} {w0__j : Int} (t_w0_ : mI w0_ = w0__j) {w1_ : Int32} {w1__j : Int} (t_w1_ : mI w1_ = w1__j) {w2_ : Int32} {w2__j : Int} (t_w2_ : mI w2_ = w2__j) {w3_ : (Nat → Int32)} {w3__j : (Nat → Int)} (t_w3_ : mA w3_ = w3__j) : tl (mP mI (mP mI (mP mI mA))) (iM_dropsNots_b0 N_j v_bad_j v_wait_j n_j w0__j w1__j w2__j w3__j) (pM_dropsNots_b0 N v_bad v_wait n w0_ w1_ w2_ w3_) := by
  subst t_N
  subst t_v_bad
  subst t_v_wait
  subst t_n
  subst t_w0_
  subst t_w1_
  subst t_w2_
  subst t_w3_
  exact tl_zlp4 (fun s2 s hs w0_ w1_ w2_ w3_ => t_pM_dropsNots_b0_F (Eq.refl N) (Eq.refl (mI v_bad)) (Eq.refl (mA v_wait)) hs (Eq.refl (mI w0_)) (Eq.refl (mI w1_)) (Eq.refl (mI w2_)) (Eq.refl (mA w3_))) n w0_ w1_ w2_ w3_
theorem t_pM_dropsNots {N N_j : Nat} (t_N : N = N_j) {v_bad : Int32} {v_bad_j : Int} (t_v_bad : mI v_bad = v_bad_j) {v_coded : Int32} {v_coded_j : Int} (t_v_coded : mI v_coded = v_coded_j) {v_open : Int32} {v_open_j : Int} (t_v_open : mI v_open = v_open_j) {v_waits : Int32} {v_waits_j : Int} (t_v_waits : mI v_waits = v_waits_j) {v_codes : (Nat → Int32)} {v_codes_j : (Nat → Int)} (t_v_codes : mA v_codes = v_codes_j) {v_wait : (Nat → Int32)} {v_wait_j : (Nat → Int)} (t_v_wait : mA v_wait = v_wait_j) : tl (mP mI (mP mI (mP mI mA))) (iM_dropsNots N_j v_bad_j v_coded_j v_open_j v_waits_j v_codes_j v_wait_j) (pM_dropsNots N v_bad v_coded v_open v_waits v_codes v_wait) := by
  subst t_N
  subst t_v_bad
  subst t_v_coded
  subst t_v_open
  subst t_v_waits
  subst t_v_codes
  subst t_v_wait
  unfold iM_dropsNots pM_dropsNots
  exact (t_pM_dropsNots_b0 (Eq.refl N) (Eq.refl (mI v_bad)) (Eq.refl (mA v_wait)) (Eq.refl N) (Eq.refl (mI v_coded)) (Eq.refl (mI v_open)) (Eq.refl (mI v_waits)) (Eq.refl (mA v_codes)))
theorem t_pM_goesOnTest_b33_F {N N_j : Nat} (t_N : N = N_j) {v_end : Int32} {v_end_j : Int} (t_v_end : mI v_end = v_end_j) {v_andWord : (Nat → Int32)} {v_andWord_j : (Nat → Int)} (t_v_andWord : mA v_andWord = v_andWord_j) {v_orWord : (Nat → Int32)} {v_orWord_j : (Nat → Int)} (t_v_orWord : mA v_orWord = v_orWord_j) {v_tape : (Nat → Int32)} {v_tape_j : (Nat → Int)} (t_v_tape : mA v_tape = v_tape_j) {v_at : Int32} {v_at_j : Int} (t_v_at : mI v_at = v_at_j) {v_bad : Int32} {v_bad_j : Int} (t_v_bad : mI v_bad = v_bad_j) {v_badPlace : Int32} {v_badPlace_j : Int} (t_v_badPlace : mI v_badPlace = v_badPlace_j) {v_ended : Int32} {v_ended_j : Int} (t_v_ended : mI v_ended = v_ended_j) {v_open : Int32} {v_open_j : Int} (t_v_open : mI v_open = v_open_j) {v_wait : (Nat → Int32)} {v_wait_j : (Nat → Int)} (t_v_wait : mA v_wait = v_wait_j) {k49 : Int32 → Int32 → (Nat → Int32) → Option R_pM_goesOnTest} {k49_j : Int → Int → (Nat → Int) → Option R_iM_goesOnTest} (t_k49 : ∀ (q0_ : Int32) (q1_ : Int32) (q2_ : (Nat → Int32)), tl (mP mI (mP mI (mP mI (mP mI (mP mI (mP mI (mP mI (mP mI (mP mA mA))))))))) (k49_j (mI q0_) (mI q1_) (mA q2_)) (k49 q0_ q1_ q2_)) {self : Int32 → Int32 → (Nat → Int32) → Option R_pM_goesOnTest} {self_j : Int → Int → (Nat → Int) → Option R_iM_goesOnTest} (t_self : ∀ (q0_ : Int32) (q1_ : Int32) (q2_ : (Nat → Int32)), tl (mP mI (mP mI (mP mI (mP mI (mP mI (mP mI (mP mI (mP mI (mP mA mA))))))))) (self_j (mI q0_) (mI q1_) (mA q2_)) (self q0_ q1_ q2_)) {v_coded : Int32} {v_coded_j : Int} (t_v_coded : mI v_coded = v_coded_j) {v_waits : Int32} {v_waits_j : Int} (t_v_waits : mI v_waits = v_waits_j) {v_codes : (Nat → Int32)} {v_codes_j : (Nat → Int)} (t_v_codes : mA v_codes = v_codes_j) : tl (mP mI (mP mI (mP mI (mP mI (mP mI (mP mI (mP mI (mP mI (mP mA mA))))))))) (iM_goesOnTest_b33_F N_j v_end_j v_andWord_j v_orWord_j v_tape_j v_at_j v_bad_j v_badPlace_j v_ended_j v_open_j v_wait_j k49_j self_j v_coded_j v_waits_j v_codes_j) (pM_goesOnTest_b33_F N v_end v_andWord v_orWord v_tape v_at v_bad v_badPlace v_ended v_open v_wait k49 self v_coded v_waits v_codes) := by
  subst t_N
  subst t_v_end
  subst t_v_andWord
  subst t_v_orWord
  subst t_v_tape
  subst t_v_at
  subst t_v_bad
  subst t_v_badPlace
  subst t_v_ended
  subst t_v_open
  subst t_v_wait
  subst t_v_coded
  subst t_v_waits
  subst t_v_codes
  unfold iM_goesOnTest_b33_F pM_goesOnTest_b33_F
  refine tl_bd1 (t_pM_isOn jlitI_25 (Eq.refl (mI v_waits)) (Eq.refl (mA v_wait))) (fun rc7 => ?_)
  refine tl_ite (jc_eq (Eq.refl (mI rc7)) jlitI_0) ?_ ?_
  · refine tl_bd3 (t_pM_drops (Eq.refl (mI v_coded)) (Eq.refl (mI v_waits)) (Eq.refl (mA v_codes)) (Eq.refl (mA v_wait))) (fun v_coded_c8 v_waits_c8 v_codes_c8 => ?_)
    exact (tl_e3 (Eq.refl (mI v_coded_c8)) (Eq.refl (mI v_waits_c8)) (Eq.refl (mA v_codes_c8)) (t_self _ _ _))
  · exact (tl_e3 (Eq.refl (mI v_coded)) (Eq.refl (mI v_waits)) (Eq.refl (mA v_codes)) (t_k49 _ _ _))
theorem t_pM_goesOnTest_b33 {N N_j : Nat} (t_N : N = N_j) {v_end : Int32} {v_end_j : Int} (t_v_end : mI v_end = v_end_j) {v_andWord : (Nat → Int32)} {v_andWord_j : (Nat → Int)} (t_v_andWord : mA v_andWord = v_andWord_j) {v_orWord : (Nat → Int32)} {v_orWord_j : (Nat → Int)} (t_v_orWord : mA v_orWord = v_orWord_j) {v_tape : (Nat → Int32)} {v_tape_j : (Nat → Int)} (t_v_tape : mA v_tape = v_tape_j) {v_at : Int32} {v_at_j : Int} (t_v_at : mI v_at = v_at_j) {v_bad : Int32} {v_bad_j : Int} (t_v_bad : mI v_bad = v_bad_j) {v_badPlace : Int32} {v_badPlace_j : Int} (t_v_badPlace : mI v_badPlace = v_badPlace_j) {v_ended : Int32} {v_ended_j : Int} (t_v_ended : mI v_ended = v_ended_j) {v_open : Int32} {v_open_j : Int} (t_v_open : mI v_open = v_open_j) {v_wait : (Nat → Int32)} {v_wait_j : (Nat → Int)} (t_v_wait : mA v_wait = v_wait_j) {k49 : Int32 → Int32 → (Nat → Int32) → Option R_pM_goesOnTest} {k49_j : Int → Int → (Nat → Int) → Option R_iM_goesOnTest} (t_k49 : ∀ (q0_ : Int32) (q1_ : Int32) (q2_ : (Nat → Int32)), tl (mP mI (mP mI (mP mI (mP mI (mP mI (mP mI (mP mI (mP mI (mP mA mA))))))))) (k49_j (mI q0_) (mI q1_) (mA q2_)) (k49 q0_ q1_ q2_)) {n n_j : Nat} (t_n : n = n_j) {w0_ : Int32} {w0__j : Int} (t_w0_ : mI w0_ = w0__j) {w1_ : Int32} {w1__j : Int} (t_w1_ : mI w1_ = w1__j) {w2_ : (Nat → Int32)} {w2__j : (Nat → Int)} (t_w2_ : mA w2_ = w2__j) : tl (mP mI (mP mI (mP mI (mP mI (mP mI (mP mI (mP mI (mP mI (mP mA mA))))))))) (iM_goesOnTest_b33 N_j v_end_j v_andWord_j v_orWord_j v_tape_j v_at_j v_bad_j v_badPlace_j v_ended_j v_open_j v_wait_j k49_j n_j w0__j w1__j w2__j) (pM_goesOnTest_b33 N v_end v_andWord v_orWord v_tape v_at v_bad v_badPlace v_ended v_open v_wait k49 n w0_ w1_ w2_) := by
  subst t_N
  subst t_v_end
  subst t_v_andWord
  subst t_v_orWord
  subst t_v_tape
  subst t_v_at
  subst t_v_bad
  subst t_v_badPlace
  subst t_v_ended
  subst t_v_open
  subst t_v_wait
  subst t_n
  subst t_w0_
  subst t_w1_
  subst t_w2_
  exact tl_zlp3 (fun s2 s hs w0_ w1_ w2_ => t_pM_goesOnTest_b33_F (Eq.refl N) (Eq.refl (mI v_end)) (Eq.refl (mA v_andWord)) (Eq.refl (mA v_orWord)) (Eq.refl (mA v_tape)) (Eq.refl (mI v_at)) (Eq.refl (mI v_bad)) (Eq.refl (mI v_badPlace)) (Eq.refl (mI v_ended)) (Eq.refl (mI v_open)) (Eq.refl (mA v_wait)) t_k49 hs (Eq.refl (mI w0_)) (Eq.refl (mI w1_)) (Eq.refl (mA w2_))) n w0_ w1_ w2_
theorem t_pM_goesOnTest_b49 {N N_j : Nat} (t_N : N = N_j) {v_end : Int32} {v_end_j : Int} (t_v_end : mI v_end = v_end_j) {v_andWord : (Nat → Int32)} {v_andWord_j : (Nat → Int)} (t_v_andWord : mA v_andWord = v_andWord_j) {v_orWord : (Nat → Int32)} {v_orWord_j : (Nat → Int)} (t_v_orWord : mA v_orWord = v_orWord_j) {v_tape : (Nat → Int32)} {v_tape_j : (Nat → Int)} (t_v_tape : mA v_tape = v_tape_j) {self : Int32 → Int32 → Int32 → Int32 → (Nat → Int32) → Option R_pM_goesOnTest} {self_j : Int → Int → Int → Int → (Nat → Int) → Option R_iM_goesOnTest} (t_self : ∀ (q0_ : Int32) (q1_ : Int32) (q2_ : Int32) (q3_ : Int32) (q4_ : (Nat → Int32)), tl (mP mI (mP mI (mP mI (mP mI (mP mI (mP mI (mP mI (mP mI (mP mA mA))))))))) (self_j (mI q0_) (mI q1_) (mI q2_) (mI q3_) (mA q4_)) (self q0_ q1_ q2_ q3_ q4_)) {k76 : Int32 → Int32 → Int32 → Int32 → (Nat → Int32) → Option R_pM_goesOnTest} {k76_j : Int → Int → Int → Int → (Nat → Int) → Option R_iM_goesOnTest} (t_k76 : ∀ (q0_ : Int32) (q1_ : Int32) (q2_ : Int32) (q3_ : Int32) (q4_ : (Nat → Int32)), tl (mP mI (mP mI (mP mI (mP mI (mP mI (mP mI (mP mI (mP mI (mP mA mA))))))))) (k76_j (mI q0_) (mI q1_) (mI q2_) (mI q3_) (mA q4_)) (k76 q0_ q1_ q2_ q3_ q4_)) {v_at : Int32} {v_at_j : Int} (t_v_at : mI v_at = v_at_j) {v_bad : Int32} {v_bad_j : Int} (t_v_bad : mI v_bad = v_bad_j) {v_badPlace : Int32} {v_badPlace_j : Int} (t_v_badPlace : mI v_badPlace = v_badPlace_j) {v_coded : Int32} {v_coded_j : Int} (t_v_coded : mI v_coded = v_coded_j) {v_ended : Int32} {v_ended_j : Int} (t_v_ended : mI v_ended = v_ended_j) {v_open : Int32} {v_open_j : Int} (t_v_open : mI v_open = v_open_j) {v_waits : Int32} {v_waits_j : Int} (t_v_waits : mI v_waits = v_waits_j) {v_codes : (Nat → Int32)} {v_codes_j : (Nat → Int)} (t_v_codes : mA v_codes = v_codes_j) {v_wait : (Nat → Int32)} {v_wait_j : (Nat → Int)} (t_v_wait : mA v_wait = v_wait_j) : tl (mP mI (mP mI (mP mI (mP mI (mP mI (mP mI (mP mI (mP mI (mP mA mA))))))))) (iM_goesOnTest_b49 N_j v_end_j v_andWord_j v_orWord_j v_tape_j self_j k76_j v_at_j v_bad_j v_badPlace_j v_coded_j v_ended_j v_open_j v_waits_j v_codes_j v_wait_j) (pM_goesOnTest_b49 N v_end v_andWord v_orWord v_tape self k76 v_at v_bad v_badPlace v_coded v_ended v_open v_waits v_codes v_wait) := by
  subst t_N
  subst t_v_end
  subst t_v_andWord
  subst t_v_orWord
  subst t_v_tape
  subst t_v_at
  subst t_v_bad
  subst t_v_badPlace
  subst t_v_coded
  subst t_v_ended
  subst t_v_open
  subst t_v_waits
  subst t_v_codes
  subst t_v_wait
  unfold iM_goesOnTest_b49 pM_goesOnTest_b49
  refine tl_g (fun h1 => ?_)
  refine tl_g (fun h2 => ?_)
  refine tl_bd4 (t_pM_dropsNots (Eq.refl N) (Eq.refl (mI v_bad)) (Eq.refl (mI v_coded)) (ja_sub (Eq.refl (mI v_open)) jlitI_1 h1) (ja_sub (Eq.refl (mI v_waits)) jlitI_1 h2) (Eq.refl (mA v_codes)) (Eq.refl (mA v_wait))) (fun v_coded_c15 v_open_c15 v_waits_c15 v_codes_c15 => ?_)
  exact (tl_e5 (Eq.refl (mI v_at)) (Eq.refl (mI v_coded_c15)) (Eq.refl (mI v_open_c15)) (Eq.refl (mI v_waits_c15)) (Eq.refl (mA v_codes_c15)) (t_self _ _ _ _ _))
theorem t_pM_goesOnTest_b0_F {N N_j : Nat} (t_N : N = N_j) {v_end : Int32} {v_end_j : Int} (t_v_end : mI v_end = v_end_j) {v_andWord : (Nat → Int32)} {v_andWord_j : (Nat → Int)} (t_v_andWord : mA v_andWord = v_andWord_j) {v_orWord : (Nat → Int32)} {v_orWord_j : (Nat → Int)} (t_v_orWord : mA v_orWord = v_orWord_j) {v_tape : (Nat → Int32)} {v_tape_j : (Nat → Int)} (t_v_tape : mA v_tape = v_tape_j) {v_bad : Int32} {v_bad_j : Int} (t_v_bad : mI v_bad = v_bad_j) {v_badPlace : Int32} {v_badPlace_j : Int} (t_v_badPlace : mI v_badPlace = v_badPlace_j) {v_ended : Int32} {v_ended_j : Int} (t_v_ended : mI v_ended = v_ended_j) {v_wait : (Nat → Int32)} {v_wait_j : (Nat → Int)} (t_v_wait : mA v_wait = v_wait_j) {k76 : Int32 → Int32 → Int32 → Int32 → (Nat → Int32) → Option R_pM_goesOnTest} {k76_j : Int → Int → Int → Int → (Nat → Int) → Option R_iM_goesOnTest} (t_k76 : ∀ (q0_ : Int32) (q1_ : Int32) (q2_ : Int32) (q3_ : Int32) (q4_ : (Nat → Int32)), tl (mP mI (mP mI (mP mI (mP mI (mP mI (mP mI (mP mI (mP mI (mP mA mA))))))))) (k76_j (mI q0_) (mI q1_) (mI q2_) (mI q3_) (mA q4_)) (k76 q0_ q1_ q2_ q3_ q4_)) {self : Int32 → Int32 → Int32 → Int32 → (Nat → Int32) → Option R_pM_goesOnTest} {self_j : Int → Int → Int → Int → (Nat → Int) → Option R_iM_goesOnTest} (t_self : ∀ (q0_ : Int32) (q1_ : Int32) (q2_ : Int32) (q3_ : Int32) (q4_ : (Nat → Int32)), tl (mP mI (mP mI (mP mI (mP mI (mP mI (mP mI (mP mI (mP mI (mP mA mA))))))))) (self_j (mI q0_) (mI q1_) (mI q2_) (mI q3_) (mA q4_)) (self q0_ q1_ q2_ q3_ q4_)) {v_at : Int32} {v_at_j : Int} (t_v_at : mI v_at = v_at_j) {v_coded : Int32} {v_coded_j : Int} (t_v_coded : mI v_coded = v_coded_j) {v_open : Int32} {v_open_j : Int} (t_v_open : mI v_open = v_open_j) {v_waits : Int32} {v_waits_j : Int} (t_v_waits : mI v_waits = v_waits_j) {v_codes : (Nat → Int32)} {v_codes_j : (Nat → Int)} (t_v_codes : mA v_codes = v_codes_j) : tl (mP mI (mP mI (mP mI (mP mI (mP mI (mP mI (mP mI (mP mI (mP mA mA))))))))) (iM_goesOnTest_b0_F N_j v_end_j v_andWord_j v_orWord_j v_tape_j v_bad_j v_badPlace_j v_ended_j v_wait_j k76_j self_j v_at_j v_coded_j v_open_j v_waits_j v_codes_j) (pM_goesOnTest_b0_F N v_end v_andWord v_orWord v_tape v_bad v_badPlace v_ended v_wait k76 self v_at v_coded v_open v_waits v_codes) := by
  subst t_N
  subst t_v_end
  subst t_v_andWord
  subst t_v_orWord
  subst t_v_tape
  subst t_v_bad
  subst t_v_badPlace
  subst t_v_ended
  subst t_v_wait
  subst t_v_at
  subst t_v_coded
  subst t_v_open
  subst t_v_waits
  subst t_v_codes
  unfold iM_goesOnTest_b0_F pM_goesOnTest_b0_F
  refine tl_ite (jc_eq (Eq.refl (mI v_bad)) jlitI_0) ?_ ?_
  · refine tl_bd2 (t_pM_look (Eq.refl N) (Eq.refl (mI v_at)) (Eq.refl (mI v_end)) (Eq.refl (mA v_tape))) (fun rc1 v_at_c1 => ?_)
    refine tl_ite (jc_eq (Eq.refl (mI rc1)) jlitI_93) ?_ ?_
    · refine tl_bd1 (t_pM_hasSquare (Eq.refl N) (Eq.refl (mI v_waits)) (Eq.refl (mA v_wait))) (fun rc2 => ?_)
      refine tl_ite (jc_eq (Eq.refl (mI rc2)) jlitI_0) ?_ ?_
      · exact (tl_e5 (Eq.refl (mI v_at_c1)) (Eq.refl (mI v_coded)) (Eq.refl (mI v_open)) (Eq.refl (mI v_waits)) (Eq.refl (mA v_codes)) (t_k76 _ _ _ _ _))
      · refine tl_g (fun h1 => ?_)
        exact (t_pM_goesOnTest_b33 (Eq.refl N) (Eq.refl (mI v_end)) (Eq.refl (mA v_andWord)) (Eq.refl (mA v_orWord)) (Eq.refl (mA v_tape)) (ja_add (Eq.refl (mI v_at_c1)) jlitI_1 h1) (Eq.refl (mI v_bad)) (Eq.refl (mI v_badPlace)) (Eq.refl (mI v_ended)) (Eq.refl (mI v_open)) (Eq.refl (mA v_wait)) (fun v_coded_k1 v_waits_k2 v_codes_k3 => by exact (t_pM_goesOnTest_b49 (Eq.refl N) (Eq.refl (mI v_end)) (Eq.refl (mA v_andWord)) (Eq.refl (mA v_orWord)) (Eq.refl (mA v_tape)) t_self t_k76 (ja_add (Eq.refl (mI v_at_c1)) jlitI_1 h1) (Eq.refl (mI v_bad)) (Eq.refl (mI v_badPlace)) (Eq.refl (mI v_coded_k1)) (Eq.refl (mI v_ended)) (Eq.refl (mI v_open)) (Eq.refl (mI v_waits_k2)) (Eq.refl (mA v_codes_k3)) (Eq.refl (mA v_wait)))) (Eq.refl N) (Eq.refl (mI v_coded)) (Eq.refl (mI v_waits)) (Eq.refl (mA v_codes)))
    · exact (tl_e5 (Eq.refl (mI v_at_c1)) (Eq.refl (mI v_coded)) (Eq.refl (mI v_open)) (Eq.refl (mI v_waits)) (Eq.refl (mA v_codes)) (t_k76 _ _ _ _ _))
  · exact (tl_e5 (Eq.refl (mI v_at)) (Eq.refl (mI v_coded)) (Eq.refl (mI v_open)) (Eq.refl (mI v_waits)) (Eq.refl (mA v_codes)) (t_k76 _ _ _ _ _))
theorem t_pM_goesOnTest_b0 {N N_j : Nat} (t_N : N = N_j) {v_end : Int32} {v_end_j : Int} (t_v_end : mI v_end = v_end_j) {v_andWord : (Nat → Int32)} {v_andWord_j : (Nat → Int)} (t_v_andWord : mA v_andWord = v_andWord_j) {v_orWord : (Nat → Int32)} {v_orWord_j : (Nat → Int)} (t_v_orWord : mA v_orWord = v_orWord_j) {v_tape : (Nat → Int32)} {v_tape_j : (Nat → Int)} (t_v_tape : mA v_tape = v_tape_j) {v_bad : Int32} {v_bad_j : Int} (t_v_bad : mI v_bad = v_bad_j) {v_badPlace : Int32} {v_badPlace_j : Int} (t_v_badPlace : mI v_badPlace = v_badPlace_j) {v_ended : Int32} {v_ended_j : Int} (t_v_ended : mI v_ended = v_ended_j) {v_wait : (Nat → Int32)} {v_wait_j : (Nat → Int)} (t_v_wait : mA v_wait = v_wait_j) {k76 : Int32 → Int32 → Int32 → Int32 → (Nat → Int32) → Option R_pM_goesOnTest} {k76_j : Int → Int → Int → Int → (Nat → Int) → Option R_iM_goesOnTest} (t_k76 : ∀ (q0_ : Int32) (q1_ : Int32) (q2_ : Int32) (q3_ : Int32) (q4_ : (Nat → Int32)), tl (mP mI (mP mI (mP mI (mP mI (mP mI (mP mI (mP mI (mP mI (mP mA mA))))))))) (k76_j (mI q0_) (mI q1_) (mI q2_) (mI q3_) (mA q4_)) (k76 q0_ q1_ q2_ q3_ q4_)) {n n_j : Nat} (t_n : n = n_j) {w0_ : Int32} {w0__j : Int} (t_w0_ : mI w0_ = w0__j) {w1_ : Int32} {w1__j : Int} (t_w1_ : mI w1_ = w1__j) {w2_ : Int32} {w2__j : Int} (t_w2_ : mI w2_ = w2__j) {w3_ : Int32} {w3__j : Int} (t_w3_ : mI w3_ = w3__j) {w4_ : (Nat → Int32)} {w4__j : (Nat → Int)} (t_w4_ : mA w4_ = w4__j) : tl (mP mI (mP mI (mP mI (mP mI (mP mI (mP mI (mP mI (mP mI (mP mA mA))))))))) (iM_goesOnTest_b0 N_j v_end_j v_andWord_j v_orWord_j v_tape_j v_bad_j v_badPlace_j v_ended_j v_wait_j k76_j n_j w0__j w1__j w2__j w3__j w4__j) (pM_goesOnTest_b0 N v_end v_andWord v_orWord v_tape v_bad v_badPlace v_ended v_wait k76 n w0_ w1_ w2_ w3_ w4_) := by
  subst t_N
  subst t_v_end
  subst t_v_andWord
  subst t_v_orWord
  subst t_v_tape
  subst t_v_bad
  subst t_v_badPlace
  subst t_v_ended
  subst t_v_wait
  subst t_n
  subst t_w0_
  subst t_w1_
  subst t_w2_
  subst t_w3_
  subst t_w4_
  exact tl_zlp5 (fun s2 s hs w0_ w1_ w2_ w3_ w4_ => t_pM_goesOnTest_b0_F (Eq.refl N) (Eq.refl (mI v_end)) (Eq.refl (mA v_andWord)) (Eq.refl (mA v_orWord)) (Eq.refl (mA v_tape)) (Eq.refl (mI v_bad)) (Eq.refl (mI v_badPlace)) (Eq.refl (mI v_ended)) (Eq.refl (mA v_wait)) t_k76 hs (Eq.refl (mI w0_)) (Eq.refl (mI w1_)) (Eq.refl (mI w2_)) (Eq.refl (mI w3_)) (Eq.refl (mA w4_))) n w0_ w1_ w2_ w3_ w4_
theorem t_pM_goesOnTest_b155 {N N_j : Nat} (t_N : N = N_j) {v_end : Int32} {v_end_j : Int} (t_v_end : mI v_end = v_end_j) {v_andWord : (Nat → Int32)} {v_andWord_j : (Nat → Int)} (t_v_andWord : mA v_andWord = v_andWord_j) {v_orWord : (Nat → Int32)} {v_orWord_j : (Nat → Int)} (t_v_orWord : mA v_orWord = v_orWord_j) {v_tape : (Nat → Int32)} {v_tape_j : (Nat → Int)} (t_v_tape : mA v_tape = v_tape_j) {self : Int32 → Int32 → (Nat → Int32) → Option R_pM_goesOnTest} {self_j : Int → Int → (Nat → Int) → Option R_iM_goesOnTest} (t_self : ∀ (q0_ : Int32) (q1_ : Int32) (q2_ : (Nat → Int32)), tl (mP mI (mP mI (mP mI (mP mI (mP mI (mP mI (mP mI (mP mI (mP mA mA))))))))) (self_j (mI q0_) (mI q1_) (mA q2_)) (self q0_ q1_ q2_)) {v_at : Int32} {v_at_j : Int} (t_v_at : mI v_at = v_at_j) {v_bad : Int32} {v_bad_j : Int} (t_v_bad : mI v_bad = v_bad_j) {v_badPlace : Int32} {v_badPlace_j : Int} (t_v_badPlace : mI v_badPlace = v_badPlace_j) {v_coded : Int32} {v_coded_j : Int} (t_v_coded : mI v_coded = v_coded_j) {v_ended : Int32} {v_ended_j : Int} (t_v_ended : mI v_ended = v_ended_j) {v_open : Int32} {v_open_j : Int} (t_v_open : mI v_open = v_open_j) {v_waits : Int32} {v_waits_j : Int} (t_v_waits : mI v_waits = v_waits_j) {v_codes : (Nat → Int32)} {v_codes_j : (Nat → Int)} (t_v_codes : mA v_codes = v_codes_j) {v_wait : (Nat → Int32)} {v_wait_j : (Nat → Int)} (t_v_wait : mA v_wait = v_wait_j) : tl (mP mI (mP mI (mP mI (mP mI (mP mI (mP mI (mP mI (mP mI (mP mA mA))))))))) (iM_goesOnTest_b155 N_j v_end_j v_andWord_j v_orWord_j v_tape_j self_j v_at_j v_bad_j v_badPlace_j v_coded_j v_ended_j v_open_j v_waits_j v_codes_j v_wait_j) (pM_goesOnTest_b155 N v_end v_andWord v_orWord v_tape self v_at v_bad v_badPlace v_coded v_ended v_open v_waits v_codes v_wait) := by
  subst t_N
  subst t_v_end
  subst t_v_andWord
  subst t_v_orWord
  subst t_v_tape
  subst t_v_at
  subst t_v_bad
  subst t_v_badPlace
  subst t_v_coded
  subst t_v_ended
  subst t_v_open
  subst t_v_waits
  subst t_v_codes
  subst t_v_wait
  unfold iM_goesOnTest_b155 pM_goesOnTest_b155
  refine tl_bd3 (t_pM_drops (Eq.refl (mI v_coded)) (Eq.refl (mI v_waits)) (Eq.refl (mA v_codes)) (Eq.refl (mA v_wait))) (fun v_coded_c16 v_waits_c16 v_codes_c16 => ?_)
  exact (tl_e3 (Eq.refl (mI v_coded_c16)) (Eq.refl (mI v_waits_c16)) (Eq.refl (mA v_codes_c16)) (t_self _ _ _))
theorem t_pM_goesOnTest_b137_F {N N_j : Nat} (t_N : N = N_j) {v_end : Int32} {v_end_j : Int} (t_v_end : mI v_end = v_end_j) {v_andWord : (Nat → Int32)} {v_andWord_j : (Nat → Int)} (t_v_andWord : mA v_andWord = v_andWord_j) {v_orWord : (Nat → Int32)} {v_orWord_j : (Nat → Int)} (t_v_orWord : mA v_orWord = v_orWord_j) {v_tape : (Nat → Int32)} {v_tape_j : (Nat → Int)} (t_v_tape : mA v_tape = v_tape_j) {v_at : Int32} {v_at_j : Int} (t_v_at : mI v_at = v_at_j) {v_bad : Int32} {v_bad_j : Int} (t_v_bad : mI v_bad = v_bad_j) {v_badPlace : Int32} {v_badPlace_j : Int} (t_v_badPlace : mI v_badPlace = v_badPlace_j) {v_ended : Int32} {v_ended_j : Int} (t_v_ended : mI v_ended = v_ended_j) {v_open : Int32} {v_open_j : Int} (t_v_open : mI v_open = v_open_j) {v_wait : (Nat → Int32)} {v_wait_j : (Nat → Int)} (t_v_wait : mA v_wait = v_wait_j) {self : Int32 → Int32 → (Nat → Int32) → Option R_pM_goesOnTest} {self_j : Int → Int → (Nat → Int) → Option R_iM_goesOnTest} (t_self : ∀ (q0_ : Int32) (q1_ : Int32) (q2_ : (Nat → Int32)), tl (mP mI (mP mI (mP mI (mP mI (mP mI (mP mI (mP mI (mP mI (mP mA mA))))))))) (self_j (mI q0_) (mI q1_) (mA q2_)) (self q0_ q1_ q2_)) {v_coded : Int32} {v_coded_j : Int} (t_v_coded : mI v_coded = v_coded_j) {v_waits : Int32} {v_waits_j : Int} (t_v_waits : mI v_waits = v_waits_j) {v_codes : (Nat → Int32)} {v_codes_j : (Nat → Int)} (t_v_codes : mA v_codes = v_codes_j) : tl (mP mI (mP mI (mP mI (mP mI (mP mI (mP mI (mP mI (mP mI (mP mA mA))))))))) (iM_goesOnTest_b137_F N_j v_end_j v_andWord_j v_orWord_j v_tape_j v_at_j v_bad_j v_badPlace_j v_ended_j v_open_j v_wait_j self_j v_coded_j v_waits_j v_codes_j) (pM_goesOnTest_b137_F N v_end v_andWord v_orWord v_tape v_at v_bad v_badPlace v_ended v_open v_wait self v_coded v_waits v_codes) := by
  subst t_N
  subst t_v_end
  subst t_v_andWord
  subst t_v_orWord
  subst t_v_tape
  subst t_v_at
  subst t_v_bad
  subst t_v_badPlace
  subst t_v_ended
  subst t_v_open
  subst t_v_wait
  subst t_v_coded
  subst t_v_waits
  subst t_v_codes
  unfold iM_goesOnTest_b137_F pM_goesOnTest_b137_F
  refine tl_bd1 (t_pM_isOn jlitI_14 (Eq.refl (mI v_waits)) (Eq.refl (mA v_wait))) (fun rc9 => ?_)
  refine tl_ite (jc_eq (Eq.refl (mI rc9)) jlitI_0) ?_ ?_
  · refine tl_bd1 (t_pM_isOn jlitI_15 (Eq.refl (mI v_waits)) (Eq.refl (mA v_wait))) (fun rc10 => ?_)
    refine tl_ite (jc_eq (Eq.refl (mI rc10)) jlitI_0) ?_ ?_
    · refine tl_gd (jg_ib (Eq.refl (mI v_waits))) (fun _ => ?_)
      refine tl_g (fun h1 => ?_)
      exact (tl_some (jp2 jlitI_1 (jp2 (Eq.refl (mI v_at)) (jp2 (Eq.refl (mI v_bad)) (jp2 (Eq.refl (mI v_badPlace)) (jp2 (Eq.refl (mI v_coded)) (jp2 (Eq.refl (mI v_ended)) (jp2 (Eq.refl (mI v_open)) (jp2 (ja_add (Eq.refl (mI v_waits)) jlitI_1 h1) (jp2 (Eq.refl (mA v_codes)) (jupA (Eq.refl (mA v_wait)) (jx (Eq.refl (mI v_waits))) jlitI_15)))))))))))
    · exact (t_pM_goesOnTest_b155 (Eq.refl N) (Eq.refl (mI v_end)) (Eq.refl (mA v_andWord)) (Eq.refl (mA v_orWord)) (Eq.refl (mA v_tape)) t_self (Eq.refl (mI v_at)) (Eq.refl (mI v_bad)) (Eq.refl (mI v_badPlace)) (Eq.refl (mI v_coded)) (Eq.refl (mI v_ended)) (Eq.refl (mI v_open)) (Eq.refl (mI v_waits)) (Eq.refl (mA v_codes)) (Eq.refl (mA v_wait)))
  · exact (t_pM_goesOnTest_b155 (Eq.refl N) (Eq.refl (mI v_end)) (Eq.refl (mA v_andWord)) (Eq.refl (mA v_orWord)) (Eq.refl (mA v_tape)) t_self (Eq.refl (mI v_at)) (Eq.refl (mI v_bad)) (Eq.refl (mI v_badPlace)) (Eq.refl (mI v_coded)) (Eq.refl (mI v_ended)) (Eq.refl (mI v_open)) (Eq.refl (mI v_waits)) (Eq.refl (mA v_codes)) (Eq.refl (mA v_wait)))
theorem t_pM_goesOnTest_b137 {N N_j : Nat} (t_N : N = N_j) {v_end : Int32} {v_end_j : Int} (t_v_end : mI v_end = v_end_j) {v_andWord : (Nat → Int32)} {v_andWord_j : (Nat → Int)} (t_v_andWord : mA v_andWord = v_andWord_j) {v_orWord : (Nat → Int32)} {v_orWord_j : (Nat → Int)} (t_v_orWord : mA v_orWord = v_orWord_j) {v_tape : (Nat → Int32)} {v_tape_j : (Nat → Int)} (t_v_tape : mA v_tape = v_tape_j) {v_at : Int32} {v_at_j : Int} (t_v_at : mI v_at = v_at_j) {v_bad : Int32} {v_bad_j : Int} (t_v_bad : mI v_bad = v_bad_j) {v_badPlace : Int32} {v_badPlace_j : Int} (t_v_badPlace : mI v_badPlace = v_badPlace_j) {v_ended : Int32} {v_ended_j : Int} (t_v_ended : mI v_ended = v_ended_j) {v_open : Int32} {v_open_j : Int} (t_v_open : mI v_open = v_open_j) {v_wait : (Nat → Int32)} {v_wait_j : (Nat → Int)} (t_v_wait : mA v_wait = v_wait_j) {n n_j : Nat} (t_n : n = n_j) {w0_ : Int32} {w0__j : Int} (t_w0_ : mI w0_ = w0__j) {w1_ : Int32} {w1__j : Int} (t_w1_ : mI w1_ = w1__j) {w2_ : (Nat → Int32)} {w2__j : (Nat → Int)} (t_w2_ : mA w2_ = w2__j) : tl (mP mI (mP mI (mP mI (mP mI (mP mI (mP mI (mP mI (mP mI (mP mA mA))))))))) (iM_goesOnTest_b137 N_j v_end_j v_andWord_j v_orWord_j v_tape_j v_at_j v_bad_j v_badPlace_j v_ended_j v_open_j v_wait_j n_j w0__j w1__j w2__j) (pM_goesOnTest_b137 N v_end v_andWord v_orWord v_tape v_at v_bad v_badPlace v_ended v_open v_wait n w0_ w1_ w2_) := by
  subst t_N
  subst t_v_end
  subst t_v_andWord
  subst t_v_orWord
  subst t_v_tape
  subst t_v_at
  subst t_v_bad
  subst t_v_badPlace
  subst t_v_ended
  subst t_v_open
  subst t_v_wait
  subst t_n
  subst t_w0_
  subst t_w1_
  subst t_w2_
  exact tl_zlp3 (fun s2 s hs w0_ w1_ w2_ => t_pM_goesOnTest_b137_F (Eq.refl N) (Eq.refl (mI v_end)) (Eq.refl (mA v_andWord)) (Eq.refl (mA v_orWord)) (Eq.refl (mA v_tape)) (Eq.refl (mI v_at)) (Eq.refl (mI v_bad)) (Eq.refl (mI v_badPlace)) (Eq.refl (mI v_ended)) (Eq.refl (mI v_open)) (Eq.refl (mA v_wait)) hs (Eq.refl (mI w0_)) (Eq.refl (mI w1_)) (Eq.refl (mA w2_))) n w0_ w1_ w2_
theorem t_pM_goesOnTest_b87_F {N N_j : Nat} (t_N : N = N_j) {v_end : Int32} {v_end_j : Int} (t_v_end : mI v_end = v_end_j) {v_andWord : (Nat → Int32)} {v_andWord_j : (Nat → Int)} (t_v_andWord : mA v_andWord = v_andWord_j) {v_orWord : (Nat → Int32)} {v_orWord_j : (Nat → Int)} (t_v_orWord : mA v_orWord = v_orWord_j) {v_tape : (Nat → Int32)} {v_tape_j : (Nat → Int)} (t_v_tape : mA v_tape = v_tape_j) {v_at : Int32} {v_at_j : Int} (t_v_at : mI v_at = v_at_j) {v_bad : Int32} {v_bad_j : Int} (t_v_bad : mI v_bad = v_bad_j) {v_badPlace : Int32} {v_badPlace_j : Int} (t_v_badPlace : mI v_badPlace = v_badPlace_j) {v_ended : Int32} {v_ended_j : Int} (t_v_ended : mI v_ended = v_ended_j) {v_open : Int32} {v_open_j : Int} (t_v_open : mI v_open = v_open_j) {v_wait : (Nat → Int32)} {v_wait_j : (Nat → Int)} (t_v_wait : mA v_wait = v_wait_j) {self : Int32 → Int32 → (Nat → Int32) → Option R_pM_goesOnTest} {self_j : Int → Int → (Nat → Int) → Option R_iM_goesOnTest} (t_self : ∀ (q0_ : Int32) (q1_ : Int32) (q2_ : (Nat → Int32)), tl (mP mI (mP mI (mP mI (mP mI (mP mI (mP mI (mP mI (mP mI (mP mA mA))))))))) (self_j (mI q0_) (mI q1_) (mA q2_)) (self q0_ q1_ q2_)) {v_coded : Int32} {v_coded_j : Int} (t_v_coded : mI v_coded = v_coded_j) {v_waits : Int32} {v_waits_j : Int} (t_v_waits : mI v_waits = v_waits_j) {v_codes : (Nat → Int32)} {v_codes_j : (Nat → Int)} (t_v_codes : mA v_codes = v_codes_j) : tl (mP mI (mP mI (mP mI (mP mI (mP mI (mP mI (mP mI (mP mI (mP mA mA))))))))) (iM_goesOnTest_b87_F N_j v_end_j v_andWord_j v_orWord_j v_tape_j v_at_j v_bad_j v_badPlace_j v_ended_j v_open_j v_wait_j self_j v_coded_j v_waits_j v_codes_j) (pM_goesOnTest_b87_F N v_end v_andWord v_orWord v_tape v_at v_bad v_badPlace v_ended v_open v_wait self v_coded v_waits v_codes) := by
  subst t_N
  subst t_v_end
  subst t_v_andWord
  subst t_v_orWord
  subst t_v_tape
  subst t_v_at
  subst t_v_bad
  subst t_v_badPlace
  subst t_v_ended
  subst t_v_open
  subst t_v_wait
  subst t_v_coded
  subst t_v_waits
  subst t_v_codes
  unfold iM_goesOnTest_b87_F pM_goesOnTest_b87_F
  refine tl_bd1 (t_pM_isOn jlitI_14 (Eq.refl (mI v_waits)) (Eq.refl (mA v_wait))) (fun rc12 => ?_)
  refine tl_ite (jc_eq (Eq.refl (mI rc12)) jlitI_0) ?_ ?_
  · refine tl_gd (jg_ib (Eq.refl (mI v_waits))) (fun _ => ?_)
    refine tl_g (fun h1 => ?_)
    exact (tl_some (jp2 jlitI_1 (jp2 (Eq.refl (mI v_at)) (jp2 (Eq.refl (mI v_bad)) (jp2 (Eq.refl (mI v_badPlace)) (jp2 (Eq.refl (mI v_coded)) (jp2 (Eq.refl (mI v_ended)) (jp2 (Eq.refl (mI v_open)) (jp2 (ja_add (Eq.refl (mI v_waits)) jlitI_1 h1) (jp2 (Eq.refl (mA v_codes)) (jupA (Eq.refl (mA v_wait)) (jx (Eq.refl (mI v_waits))) jlitI_14)))))))))))
  · refine tl_bd3 (t_pM_drops (Eq.refl (mI v_coded)) (Eq.refl (mI v_waits)) (Eq.refl (mA v_codes)) (Eq.refl (mA v_wait))) (fun v_coded_c14 v_waits_c14 v_codes_c14 => ?_)
    exact (tl_e3 (Eq.refl (mI v_coded_c14)) (Eq.refl (mI v_waits_c14)) (Eq.refl (mA v_codes_c14)) (t_self _ _ _))
theorem t_pM_goesOnTest_b87 {N N_j : Nat} (t_N : N = N_j) {v_end : Int32} {v_end_j : Int} (t_v_end : mI v_end = v_end_j) {v_andWord : (Nat → Int32)} {v_andWord_j : (Nat → Int)} (t_v_andWord : mA v_andWord = v_andWord_j) {v_orWord : (Nat → Int32)} {v_orWord_j : (Nat → Int)} (t_v_orWord : mA v_orWord = v_orWord_j) {v_tape : (Nat → Int32)} {v_tape_j : (Nat → Int)} (t_v_tape : mA v_tape = v_tape_j) {v_at : Int32} {v_at_j : Int} (t_v_at : mI v_at = v_at_j) {v_bad : Int32} {v_bad_j : Int} (t_v_bad : mI v_bad = v_bad_j) {v_badPlace : Int32} {v_badPlace_j : Int} (t_v_badPlace : mI v_badPlace = v_badPlace_j) {v_ended : Int32} {v_ended_j : Int} (t_v_ended : mI v_ended = v_ended_j) {v_open : Int32} {v_open_j : Int} (t_v_open : mI v_open = v_open_j) {v_wait : (Nat → Int32)} {v_wait_j : (Nat → Int)} (t_v_wait : mA v_wait = v_wait_j) {n n_j : Nat} (t_n : n = n_j) {w0_ : Int32} {w0__j : Int} (t_w0_ : mI w0_ = w0__j) {w1_ : Int32} {w1__j : Int} (t_w1_ : mI w1_ = w1__j) {w2_ : (Nat → Int32)} {w2__j : (Nat → Int)} (t_w2_ : mA w2_ = w2__j) : tl (mP mI (mP mI (mP mI (mP mI (mP mI (mP mI (mP mI (mP mI (mP mA mA))))))))) (iM_goesOnTest_b87 N_j v_end_j v_andWord_j v_orWord_j v_tape_j v_at_j v_bad_j v_badPlace_j v_ended_j v_open_j v_wait_j n_j w0__j w1__j w2__j) (pM_goesOnTest_b87 N v_end v_andWord v_orWord v_tape v_at v_bad v_badPlace v_ended v_open v_wait n w0_ w1_ w2_) := by
  subst t_N
  subst t_v_end
  subst t_v_andWord
  subst t_v_orWord
  subst t_v_tape
  subst t_v_at
  subst t_v_bad
  subst t_v_badPlace
  subst t_v_ended
  subst t_v_open
  subst t_v_wait
  subst t_n
  subst t_w0_
  subst t_w1_
  subst t_w2_
  exact tl_zlp3 (fun s2 s hs w0_ w1_ w2_ => t_pM_goesOnTest_b87_F (Eq.refl N) (Eq.refl (mI v_end)) (Eq.refl (mA v_andWord)) (Eq.refl (mA v_orWord)) (Eq.refl (mA v_tape)) (Eq.refl (mI v_at)) (Eq.refl (mI v_bad)) (Eq.refl (mI v_badPlace)) (Eq.refl (mI v_ended)) (Eq.refl (mI v_open)) (Eq.refl (mA v_wait)) hs (Eq.refl (mI w0_)) (Eq.refl (mI w1_)) (Eq.refl (mA w2_))) n w0_ w1_ w2_
theorem t_pM_goesOnTest_b76 {N N_j : Nat} (t_N : N = N_j) {v_end : Int32} {v_end_j : Int} (t_v_end : mI v_end = v_end_j) {v_andWord : (Nat → Int32)} {v_andWord_j : (Nat → Int)} (t_v_andWord : mA v_andWord = v_andWord_j) {v_orWord : (Nat → Int32)} {v_orWord_j : (Nat → Int)} (t_v_orWord : mA v_orWord = v_orWord_j) {v_tape : (Nat → Int32)} {v_tape_j : (Nat → Int)} (t_v_tape : mA v_tape = v_tape_j) {v_at : Int32} {v_at_j : Int} (t_v_at : mI v_at = v_at_j) {v_bad : Int32} {v_bad_j : Int} (t_v_bad : mI v_bad = v_bad_j) {v_badPlace : Int32} {v_badPlace_j : Int} (t_v_badPlace : mI v_badPlace = v_badPlace_j) {v_coded : Int32} {v_coded_j : Int} (t_v_coded : mI v_coded = v_coded_j) {v_ended : Int32} {v_ended_j : Int} (t_v_ended : mI v_ended = v_ended_j) {v_open : Int32} {v_open_j : Int} (t_v_open : mI v_open = v_open_j) {v_waits : Int32} {v_waits_j : Int} (t_v_waits : mI v_waits = v_waits_j) {v_codes : (Nat → Int32)} {v_codes_j : (Nat → Int)} (t_v_codes : mA v_codes = v_codes_j) {v_wait : (Nat → Int32)} {v_wait_j : (Nat → Int)} (t_v_wait : mA v_wait = v_wait_j) : tl (mP mI (mP mI (mP mI (mP mI (mP mI (mP mI (mP mI (mP mI (mP mA mA))))))))) (iM_goesOnTest_b76 N_j v_end_j v_andWord_j v_orWord_j v_tape_j v_at_j v_bad_j v_badPlace_j v_coded_j v_ended_j v_open_j v_waits_j v_codes_j v_wait_j) (pM_goesOnTest_b76 N v_end v_andWord v_orWord v_tape v_at v_bad v_badPlace v_coded v_ended v_open v_waits v_codes v_wait) := by
  subst t_N
  subst t_v_end
  subst t_v_andWord
  subst t_v_orWord
  subst t_v_tape
  subst t_v_at
  subst t_v_bad
  subst t_v_badPlace
  subst t_v_coded
  subst t_v_ended
  subst t_v_open
  subst t_v_waits
  subst t_v_codes
  subst t_v_wait
  unfold iM_goesOnTest_b76 pM_goesOnTest_b76
  refine tl_bd3 (t_pM_takes (Eq.refl N) (Eq.refl _) (Eq.refl (mA v_andWord)) (Eq.refl (mI v_at)) (Eq.refl (mI v_bad)) (Eq.refl (mI v_end)) (Eq.refl (mI v_ended)) (Eq.refl (mA v_tape))) (fun rc3 v_at_c3 v_ended_c3 => ?_)
  refine tl_ite (jc_eq (Eq.refl (mI rc3)) jlitI_0) ?_ ?_
  · refine tl_bd3 (t_pM_takes (Eq.refl N) (Eq.refl _) (Eq.refl (mA v_orWord)) (Eq.refl (mI v_at_c3)) (Eq.refl (mI v_bad)) (Eq.refl (mI v_end)) (Eq.refl (mI v_ended_c3)) (Eq.refl (mA v_tape))) (fun rc4 v_at_c4 v_ended_c4 => ?_)
    refine tl_ite (jc_eq (Eq.refl (mI rc4)) jlitI_0) ?_ ?_
    · refine tl_ite (jc_eq (Eq.refl (mI v_bad)) jlitI_0) ?_ ?_
      · refine tl_bd1 (t_pM_hasSquare (Eq.refl N) (Eq.refl (mI v_waits)) (Eq.refl (mA v_wait))) (fun rc5 => ?_)
        refine tl_ite (jc_eq (Eq.refl (mI rc5)) jlitI_0) ?_ ?_
        · exact (tl_some (jp2 jlitI_0 (jp2 (Eq.refl (mI v_at_c4)) (jp2 (Eq.refl (mI v_bad)) (jp2 (Eq.refl (mI v_badPlace)) (jp2 (Eq.refl (mI v_coded)) (jp2 (Eq.refl (mI v_ended_c4)) (jp2 (Eq.refl (mI v_open)) (jp2 (Eq.refl (mI v_waits)) (jp2 (Eq.refl (mA v_codes)) (Eq.refl (mA v_wait))))))))))))
        · refine tl_bd2 (t_pM_fail jlitI_1 (Eq.refl (mI v_at_c4)) (Eq.refl (mI v_bad)) (Eq.refl (mI v_badPlace))) (fun v_bad_c6 v_badPlace_c6 => ?_)
          exact (tl_some (jp2 jlitI_0 (jp2 (Eq.refl (mI v_at_c4)) (jp2 (Eq.refl (mI v_bad_c6)) (jp2 (Eq.refl (mI v_badPlace_c6)) (jp2 (Eq.refl (mI v_coded)) (jp2 (Eq.refl (mI v_ended_c4)) (jp2 (Eq.refl (mI v_open)) (jp2 (Eq.refl (mI v_waits)) (jp2 (Eq.refl (mA v_codes)) (Eq.refl (mA v_wait))))))))))))
      · exact (tl_some (jp2 jlitI_0 (jp2 (Eq.refl (mI v_at_c4)) (jp2 (Eq.refl (mI v_bad)) (jp2 (Eq.refl (mI v_badPlace)) (jp2 (Eq.refl (mI v_coded)) (jp2 (Eq.refl (mI v_ended_c4)) (jp2 (Eq.refl (mI v_open)) (jp2 (Eq.refl (mI v_waits)) (jp2 (Eq.refl (mA v_codes)) (Eq.refl (mA v_wait))))))))))))
    · exact (t_pM_goesOnTest_b137 (Eq.refl N) (Eq.refl (mI v_end)) (Eq.refl (mA v_andWord)) (Eq.refl (mA v_orWord)) (Eq.refl (mA v_tape)) (Eq.refl (mI v_at_c4)) (Eq.refl (mI v_bad)) (Eq.refl (mI v_badPlace)) (Eq.refl (mI v_ended_c4)) (Eq.refl (mI v_open)) (Eq.refl (mA v_wait)) (Eq.refl N) (Eq.refl (mI v_coded)) (Eq.refl (mI v_waits)) (Eq.refl (mA v_codes)))
  · exact (t_pM_goesOnTest_b87 (Eq.refl N) (Eq.refl (mI v_end)) (Eq.refl (mA v_andWord)) (Eq.refl (mA v_orWord)) (Eq.refl (mA v_tape)) (Eq.refl (mI v_at_c3)) (Eq.refl (mI v_bad)) (Eq.refl (mI v_badPlace)) (Eq.refl (mI v_ended_c3)) (Eq.refl (mI v_open)) (Eq.refl (mA v_wait)) (Eq.refl N) (Eq.refl (mI v_coded)) (Eq.refl (mI v_waits)) (Eq.refl (mA v_codes)))
theorem t_pM_goesOnTest {N N_j : Nat} (t_N : N = N_j) {v_at : Int32} {v_at_j : Int} (t_v_at : mI v_at = v_at_j) {v_bad : Int32} {v_bad_j : Int} (t_v_bad : mI v_bad = v_bad_j) {v_badPlace : Int32} {v_badPlace_j : Int} (t_v_badPlace : mI v_badPlace = v_badPlace_j) {v_coded : Int32} {v_coded_j : Int} (t_v_coded : mI v_coded = v_coded_j) {v_end : Int32} {v_end_j : Int} (t_v_end : mI v_end = v_end_j) {v_ended : Int32} {v_ended_j : Int} (t_v_ended : mI v_ended = v_ended_j) {v_open : Int32} {v_open_j : Int} (t_v_open : mI v_open = v_open_j) {v_waits : Int32} {v_waits_j : Int} (t_v_waits : mI v_waits = v_waits_j) {v_andWord : (Nat → Int32)} {v_andWord_j : (Nat → Int)} (t_v_andWord : mA v_andWord = v_andWord_j) {v_codes : (Nat → Int32)} {v_codes_j : (Nat → Int)} (t_v_codes : mA v_codes = v_codes_j) {v_orWord : (Nat → Int32)} {v_orWord_j : (Nat → Int)} (t_v_orWord : mA v_orWord = v_orWord_j) {v_tape : (Nat → Int32)} {v_tape_j : (Nat → Int)} (t_v_tape : mA v_tape = v_tape_j) {v_wait : (Nat → Int32)} {v_wait_j : (Nat → Int)} (t_v_wait : mA v_wait = v_wait_j) : tl (mP mI (mP mI (mP mI (mP mI (mP mI (mP mI (mP mI (mP mI (mP mA mA))))))))) (iM_goesOnTest N_j v_at_j v_bad_j v_badPlace_j v_coded_j v_end_j v_ended_j v_open_j v_waits_j v_andWord_j v_codes_j v_orWord_j v_tape_j v_wait_j) (pM_goesOnTest N v_at v_bad v_badPlace v_coded v_end v_ended v_open v_waits v_andWord v_codes v_orWord v_tape v_wait) := by
  subst t_N
  subst t_v_at
  subst t_v_bad
  subst t_v_badPlace
  subst t_v_coded
  subst t_v_end
  subst t_v_ended
  subst t_v_open
  subst t_v_waits
  subst t_v_andWord
  subst t_v_codes
  subst t_v_orWord
  subst t_v_tape
  subst t_v_wait
  unfold iM_goesOnTest pM_goesOnTest
  exact (t_pM_goesOnTest_b0 (Eq.refl N) (Eq.refl (mI v_end)) (Eq.refl (mA v_andWord)) (Eq.refl (mA v_orWord)) (Eq.refl (mA v_tape)) (Eq.refl (mI v_bad)) (Eq.refl (mI v_badPlace)) (Eq.refl (mI v_ended)) (Eq.refl (mA v_wait)) (fun v_at_k4 v_coded_k5 v_open_k6 v_waits_k7 v_codes_k8 => by exact (t_pM_goesOnTest_b76 (Eq.refl N) (Eq.refl (mI v_end)) (Eq.refl (mA v_andWord)) (Eq.refl (mA v_orWord)) (Eq.refl (mA v_tape)) (Eq.refl (mI v_at_k4)) (Eq.refl (mI v_bad)) (Eq.refl (mI v_badPlace)) (Eq.refl (mI v_coded_k5)) (Eq.refl (mI v_ended)) (Eq.refl (mI v_open_k6)) (Eq.refl (mI v_waits_k7)) (Eq.refl (mA v_codes_k8)) (Eq.refl (mA v_wait)))) (Eq.refl N) (Eq.refl (mI v_at)) (Eq.refl (mI v_coded)) (Eq.refl (mI v_open)) (Eq.refl (mI v_waits)) (Eq.refl (mA v_codes)))
theorem t_pM_test_b2_F {N N_j : Nat} (t_N : N = N_j) {v_end : Int32} {v_end_j : Int} (t_v_end : mI v_end = v_end_j) {v_allWord : (Nat → Int32)} {v_allWord_j : (Nat → Int)} (t_v_allWord : mA v_allWord = v_allWord_j) {v_andWord : (Nat → Int32)} {v_andWord_j : (Nat → Int)} (t_v_andWord : mA v_andWord = v_andWord_j) {v_debtWord : (Nat → Int32)} {v_debtWord_j : (Nat → Int)} (t_v_debtWord : mA v_debtWord = v_debtWord_j) {v_maxWord : (Nat → Int32)} {v_maxWord_j : (Nat → Int)} (t_v_maxWord : mA v_maxWord = v_maxWord_j) {v_minWord : (Nat → Int32)} {v_minWord_j : (Nat → Int)} (t_v_minWord : mA v_minWord = v_minWord_j) {v_notWord : (Nat → Int32)} {v_notWord_j : (Nat → Int)} (t_v_notWord : mA v_notWord = v_notWord_j) {v_orWord : (Nat → Int32)} {v_orWord_j : (Nat → Int)} (t_v_orWord : mA v_orWord = v_orWord_j) {v_paidWord : (Nat → Int32)} {v_paidWord_j : (Nat → Int)} (t_v_paidWord : mA v_paidWord = v_paidWord_j) {v_penceWord : (Nat → Int32)} {v_penceWord_j : (Nat → Int)} (t_v_penceWord : mA v_penceWord = v_penceWord_j) {v_poundsWord : (Nat → Int32)} {v_poundsWord_j : (Nat → Int)} (t_v_poundsWord : mA v_poundsWord = v_poundsWord_j) {v_shillingsWord : (Nat → Int32)} {v_shillingsWord_j : (Nat → Int)} (t_v_shillingsWord : mA v_shillingsWord = v_shillingsWord_j) {v_shireWord : (Nat → Int32)} {v_shireWord_j : (Nat → Int)} (t_v_shireWord : mA v_shireWord = v_shireWord_j) {v_tape : (Nat → Int32)} {v_tape_j : (Nat → Int)} (t_v_tape : mA v_tape = v_tape_j) {v_termWord : (Nat → Int32)} {v_termWord_j : (Nat → Int)} (t_v_termWord : mA v_termWord = v_termWord_j) {v_yearWord : (Nat → Int32)} {v_yearWord_j : (Nat → Int)} (t_v_yearWord : mA v_yearWord = v_yearWord_j) {k110 : Int32 → Int32 → Int32 → Int32 → Int32 → Int32 → Int32 → Int32 → (Nat → Int32) → (Nat → Int32) → Option R_pM_test} {k110_j : Int → Int → Int → Int → Int → Int → Int → Int → (Nat → Int) → (Nat → Int) → Option R_iM_test} (t_k110 : ∀ (q0_ : Int32) (q1_ : Int32) (q2_ : Int32) (q3_ : Int32) (q4_ : Int32) (q5_ : Int32) (q6_ : Int32) (q7_ : Int32) (q8_ : (Nat → Int32)) (q9_ : (Nat → Int32)), tl (mP mI (mP mI (mP mI (mP mI (mP mI (mP mI (mP mI (mP mI (mP mA mA))))))))) (k110_j (mI q0_) (mI q1_) (mI q2_) (mI q3_) (mI q4_) (mI q5_) (mI q6_) (mI q7_) (mA q8_) (mA q9_)) (k110 q0_ q1_ q2_ q3_ q4_ q5_ q6_ q7_ q8_ q9_)) {self : Int32 → Int32 → Int32 → Int32 → Int32 → Int32 → Int32 → Int32 → Int32 → (Nat → Int32) → (Nat → Int32) → Option R_pM_test} {self_j : Int → Int → Int → Int → Int → Int → Int → Int → Int → (Nat → Int) → (Nat → Int) → Option R_iM_test} (t_self : ∀ (q0_ : Int32) (q1_ : Int32) (q2_ : Int32) (q3_ : Int32) (q4_ : Int32) (q5_ : Int32) (q6_ : Int32) (q7_ : Int32) (q8_ : Int32) (q9_ : (Nat → Int32)) (q10_ : (Nat → Int32)), tl (mP mI (mP mI (mP mI (mP mI (mP mI (mP mI (mP mI (mP mI (mP mA mA))))))))) (self_j (mI q0_) (mI q1_) (mI q2_) (mI q3_) (mI q4_) (mI q5_) (mI q6_) (mI q7_) (mI q8_) (mA q9_) (mA q10_)) (self q0_ q1_ q2_ q3_ q4_ q5_ q6_ q7_ q8_ q9_ q10_)) {x1 : Int32} {x1_j : Int} (t_x1 : mI x1 = x1_j) {v_at : Int32} {v_at_j : Int} (t_v_at : mI v_at = v_at_j) {v_bad : Int32} {v_bad_j : Int} (t_v_bad : mI v_bad = v_bad_j) {v_badPlace : Int32} {v_badPlace_j : Int} (t_v_badPlace : mI v_badPlace = v_badPlace_j) {v_base : Int32} {v_base_j : Int} (t_v_base : mI v_base = v_base_j) {v_coded : Int32} {v_coded_j : Int} (t_v_coded : mI v_coded = v_coded_j) {v_ended : Int32} {v_ended_j : Int} (t_v_ended : mI v_ended = v_ended_j) {v_open : Int32} {v_open_j : Int} (t_v_open : mI v_open = v_open_j) {v_waits : Int32} {v_waits_j : Int} (t_v_waits : mI v_waits = v_waits_j) {v_codes : (Nat → Int32)} {v_codes_j : (Nat → Int)} (t_v_codes : mA v_codes = v_codes_j) {v_wait : (Nat → Int32)} {v_wait_j : (Nat → Int)} (t_v_wait : mA v_wait = v_wait_j) : tl (mP mI (mP mI (mP mI (mP mI (mP mI (mP mI (mP mI (mP mI (mP mA mA))))))))) (iM_test_b2_F N_j v_end_j v_allWord_j v_andWord_j v_debtWord_j v_maxWord_j v_minWord_j v_notWord_j v_orWord_j v_paidWord_j v_penceWord_j v_poundsWord_j v_shillingsWord_j v_shireWord_j v_tape_j v_termWord_j v_yearWord_j k110_j self_j x1_j v_at_j v_bad_j v_badPlace_j v_base_j v_coded_j v_ended_j v_open_j v_waits_j v_codes_j v_wait_j) (pM_test_b2_F N v_end v_allWord v_andWord v_debtWord v_maxWord v_minWord v_notWord v_orWord v_paidWord v_penceWord v_poundsWord v_shillingsWord v_shireWord v_tape v_termWord v_yearWord k110 self x1 v_at v_bad v_badPlace v_base v_coded v_ended v_open v_waits v_codes v_wait) := by
  subst t_N
  subst t_v_end
  subst t_v_allWord
  subst t_v_andWord
  subst t_v_debtWord
  subst t_v_maxWord
  subst t_v_minWord
  subst t_v_notWord
  subst t_v_orWord
  subst t_v_paidWord
  subst t_v_penceWord
  subst t_v_poundsWord
  subst t_v_shillingsWord
  subst t_v_shireWord
  subst t_v_tape
  subst t_v_termWord
  subst t_v_yearWord
  subst t_x1
  subst t_v_at
  subst t_v_bad
  subst t_v_badPlace
  subst t_v_base
  subst t_v_coded
  subst t_v_ended
  subst t_v_open
  subst t_v_waits
  subst t_v_codes
  subst t_v_wait
  unfold iM_test_b2_F pM_test_b2_F
  refine tl_ite (jc_eq (Eq.refl (mI x1)) jlitI_0) ?_ ?_
  · exact (tl_e10 (Eq.refl (mI v_at)) (Eq.refl (mI v_bad)) (Eq.refl (mI v_badPlace)) (Eq.refl (mI v_base)) (Eq.refl (mI v_coded)) (Eq.refl (mI v_ended)) (Eq.refl (mI v_open)) (Eq.refl (mI v_waits)) (Eq.refl (mA v_codes)) (Eq.refl (mA v_wait)) (t_k110 _ _ _ _ _ _ _ _ _ _))
  · refine tl_ite (jc_eq (Eq.refl (mI v_bad)) jlitI_0) ?_ ?_
    · refine tl_bd2 (t_pM_look (Eq.refl N) (Eq.refl (mI v_at)) (Eq.refl (mI v_end)) (Eq.refl (mA v_tape))) (fun rc1 v_at_c1 => ?_)
      refine tl_ite (jc_eq (Eq.refl (mI rc1)) jlitI_91) ?_ ?_
      · refine tl_bd5 (t_pM_opens jlitI_25 (Eq.refl (mI v_at_c1)) (Eq.refl (mI v_bad)) (Eq.refl (mI v_badPlace)) (Eq.refl (mI v_open)) (Eq.refl (mI v_waits)) (Eq.refl (mA v_wait))) (fun v_bad_c8 v_badPlace_c8 v_open_c8 v_waits_c8 v_wait_c8 => ?_)
        refine tl_g (fun h1 => ?_)
        exact (tl_e11 (Eq.refl (mI x1)) (ja_add (Eq.refl (mI v_at_c1)) jlitI_1 h1) (Eq.refl (mI v_bad_c8)) (Eq.refl (mI v_badPlace_c8)) (Eq.refl (mI v_base)) (Eq.refl (mI v_coded)) (Eq.refl (mI v_ended)) (Eq.refl (mI v_open_c8)) (Eq.refl (mI v_waits_c8)) (Eq.refl (mA v_codes)) (Eq.refl (mA v_wait_c8)) (t_self _ _ _ _ _ _ _ _ _ _ _))
      · refine tl_bd2 (t_pM_isHere (Eq.refl N) (Eq.refl _) (Eq.refl (mA v_notWord)) (Eq.refl (mI v_at_c1)) (Eq.refl (mI v_bad)) (Eq.refl (mI v_end)) (Eq.refl (mI v_ended)) (Eq.refl (mA v_tape))) (fun rc2 v_at_c2 => ?_)
        refine tl_ite (jc_eq (Eq.refl (mI rc2)) jlitI_0) ?_ ?_
        · refine tl_bd10 (t_pM_fact (Eq.refl N) (Eq.refl (mI v_at_c2)) (Eq.refl (mI v_bad)) (Eq.refl (mI v_badPlace)) (Eq.refl (mI v_base)) (Eq.refl (mI v_coded)) (Eq.refl (mI v_end)) (Eq.refl (mI v_ended)) (Eq.refl (mI v_open)) (Eq.refl (mI v_waits)) (Eq.refl (mA v_allWord)) (Eq.refl (mA v_codes)) (Eq.refl (mA v_debtWord)) (Eq.refl (mA v_maxWord)) (Eq.refl (mA v_minWord)) (Eq.refl (mA v_paidWord)) (Eq.refl (mA v_penceWord)) (Eq.refl (mA v_poundsWord)) (Eq.refl (mA v_shillingsWord)) (Eq.refl (mA v_shireWord)) (Eq.refl (mA v_tape)) (Eq.refl (mA v_termWord)) (Eq.refl (mA v_wait)) (Eq.refl (mA v_yearWord))) (fun v_at_c3 v_bad_c3 v_badPlace_c3 v_base_c3 v_coded_c3 v_ended_c3 v_open_c3 v_waits_c3 v_codes_c3 v_wait_c3 => ?_)
          refine tl_bd4 (t_pM_dropsNots (Eq.refl N) (Eq.refl (mI v_bad_c3)) (Eq.refl (mI v_coded_c3)) (Eq.refl (mI v_open_c3)) (Eq.refl (mI v_waits_c3)) (Eq.refl (mA v_codes_c3)) (Eq.refl (mA v_wait_c3))) (fun v_coded_c4 v_open_c4 v_waits_c4 v_codes_c4 => ?_)
          refine tl_ite (jc_eq (Eq.refl (mI v_bad_c3)) jlitI_0) ?_ ?_
          · refine tl_bd10 (t_pM_goesOnTest (Eq.refl N) (Eq.refl (mI v_at_c3)) (Eq.refl (mI v_bad_c3)) (Eq.refl (mI v_badPlace_c3)) (Eq.refl (mI v_coded_c4)) (Eq.refl (mI v_end)) (Eq.refl (mI v_ended_c3)) (Eq.refl (mI v_open_c4)) (Eq.refl (mI v_waits_c4)) (Eq.refl (mA v_andWord)) (Eq.refl (mA v_codes_c4)) (Eq.refl (mA v_orWord)) (Eq.refl (mA v_tape)) (Eq.refl (mA v_wait_c3))) (fun rc5 v_at_c5 v_bad_c5 v_badPlace_c5 v_coded_c5 v_ended_c5 v_open_c5 v_waits_c5 v_codes_c5 v_wait_c5 => ?_)
            refine tl_ite (jc_eq (Eq.refl (mI rc5)) jlitI_0) ?_ ?_
            · exact (tl_e11 jlitI_0 (Eq.refl (mI v_at_c5)) (Eq.refl (mI v_bad_c5)) (Eq.refl (mI v_badPlace_c5)) (Eq.refl (mI v_base_c3)) (Eq.refl (mI v_coded_c5)) (Eq.refl (mI v_ended_c5)) (Eq.refl (mI v_open_c5)) (Eq.refl (mI v_waits_c5)) (Eq.refl (mA v_codes_c5)) (Eq.refl (mA v_wait_c5)) (t_self _ _ _ _ _ _ _ _ _ _ _))
            · exact (tl_e11 jlitI_1 (Eq.refl (mI v_at_c5)) (Eq.refl (mI v_bad_c5)) (Eq.refl (mI v_badPlace_c5)) (Eq.refl (mI v_base_c3)) (Eq.refl (mI v_coded_c5)) (Eq.refl (mI v_ended_c5)) (Eq.refl (mI v_open_c5)) (Eq.refl (mI v_waits_c5)) (Eq.refl (mA v_codes_c5)) (Eq.refl (mA v_wait_c5)) (t_self _ _ _ _ _ _ _ _ _ _ _))
          · exact (tl_e11 jlitI_0 (Eq.refl (mI v_at_c3)) (Eq.refl (mI v_bad_c3)) (Eq.refl (mI v_badPlace_c3)) (Eq.refl (mI v_base_c3)) (Eq.refl (mI v_coded_c4)) (Eq.refl (mI v_ended_c3)) (Eq.refl (mI v_open_c4)) (Eq.refl (mI v_waits_c4)) (Eq.refl (mA v_codes_c4)) (Eq.refl (mA v_wait_c3)) (t_self _ _ _ _ _ _ _ _ _ _ _))
        · refine tl_bd5 (t_pM_opens jlitI_16 (Eq.refl (mI v_at_c2)) (Eq.refl (mI v_bad)) (Eq.refl (mI v_badPlace)) (Eq.refl (mI v_open)) (Eq.refl (mI v_waits)) (Eq.refl (mA v_wait))) (fun v_bad_c6 v_badPlace_c6 v_open_c6 v_waits_c6 v_wait_c6 => ?_)
          refine tl_bd4 (t_pM_asks (Eq.refl N) (Eq.refl _) (Eq.refl (mA v_notWord)) (Eq.refl (mI v_at_c2)) (Eq.refl (mI v_bad_c6)) (Eq.refl (mI v_badPlace_c6)) (Eq.refl (mI v_end)) (Eq.refl (mI v_ended)) (Eq.refl (mA v_tape))) (fun v_at_c7 v_bad_c7 v_badPlace_c7 v_ended_c7 => ?_)
          exact (tl_e11 (Eq.refl (mI x1)) (Eq.refl (mI v_at_c7)) (Eq.refl (mI v_bad_c7)) (Eq.refl (mI v_badPlace_c7)) (Eq.refl (mI v_base)) (Eq.refl (mI v_coded)) (Eq.refl (mI v_ended_c7)) (Eq.refl (mI v_open_c6)) (Eq.refl (mI v_waits_c6)) (Eq.refl (mA v_codes)) (Eq.refl (mA v_wait_c6)) (t_self _ _ _ _ _ _ _ _ _ _ _))
    · exact (tl_e10 (Eq.refl (mI v_at)) (Eq.refl (mI v_bad)) (Eq.refl (mI v_badPlace)) (Eq.refl (mI v_base)) (Eq.refl (mI v_coded)) (Eq.refl (mI v_ended)) (Eq.refl (mI v_open)) (Eq.refl (mI v_waits)) (Eq.refl (mA v_codes)) (Eq.refl (mA v_wait)) (t_k110 _ _ _ _ _ _ _ _ _ _))
theorem t_pM_test_b2 {N N_j : Nat} (t_N : N = N_j) {v_end : Int32} {v_end_j : Int} (t_v_end : mI v_end = v_end_j) {v_allWord : (Nat → Int32)} {v_allWord_j : (Nat → Int)} (t_v_allWord : mA v_allWord = v_allWord_j) {v_andWord : (Nat → Int32)} {v_andWord_j : (Nat → Int)} (t_v_andWord : mA v_andWord = v_andWord_j) {v_debtWord : (Nat → Int32)} {v_debtWord_j : (Nat → Int)} (t_v_debtWord : mA v_debtWord = v_debtWord_j) {v_maxWord : (Nat → Int32)} {v_maxWord_j : (Nat → Int)} (t_v_maxWord : mA v_maxWord = v_maxWord_j) {v_minWord : (Nat → Int32)} {v_minWord_j : (Nat → Int)} (t_v_minWord : mA v_minWord = v_minWord_j) {v_notWord : (Nat → Int32)} {v_notWord_j : (Nat → Int)} (t_v_notWord : mA v_notWord = v_notWord_j) {v_orWord : (Nat → Int32)} {v_orWord_j : (Nat → Int)} (t_v_orWord : mA v_orWord = v_orWord_j) {v_paidWord : (Nat → Int32)} {v_paidWord_j : (Nat → Int)} (t_v_paidWord : mA v_paidWord = v_paidWord_j) {v_penceWord : (Nat → Int32)} {v_penceWord_j : (Nat → Int)} (t_v_penceWord : mA v_penceWord = v_penceWord_j) {v_poundsWord : (Nat → Int32)} {v_poundsWord_j : (Nat → Int)} (t_v_poundsWord : mA v_poundsWord = v_poundsWord_j) {v_shillingsWord : (Nat → Int32)} {v_shillingsWord_j : (Nat → Int)} (t_v_shillingsWord : mA v_shillingsWord = v_shillingsWord_j) {v_shireWord : (Nat → Int32)} {v_shireWord_j : (Nat → Int)} (t_v_shireWord : mA v_shireWord = v_shireWord_j) {v_tape : (Nat → Int32)} {v_tape_j : (Nat → Int)} (t_v_tape : mA v_tape = v_tape_j) {v_termWord : (Nat → Int32)} {v_termWord_j : (Nat → Int)} (t_v_termWord : mA v_termWord = v_termWord_j) {v_yearWord : (Nat → Int32)} {v_yearWord_j : (Nat → Int)} (t_v_yearWord : mA v_yearWord = v_yearWord_j) {k110 : Int32 → Int32 → Int32 → Int32 → Int32 → Int32 → Int32 → Int32 → (Nat → Int32) → (Nat → Int32) → Option R_pM_test} {k110_j : Int → Int → Int → Int → Int → Int → Int → Int → (Nat → Int) → (Nat → Int) → Option R_iM_test} (t_k110 : ∀ (q0_ : Int32) (q1_ : Int32) (q2_ : Int32) (q3_ : Int32) (q4_ : Int32) (q5_ : Int32) (q6_ : Int32) (q7_ : Int32) (q8_ : (Nat → Int32)) (q9_ : (Nat → Int32)), tl (mP mI (mP mI (mP mI (mP mI (mP mI (mP mI (mP mI (mP mI (mP mA mA))))))))) (k110_j (mI q0_) (mI q1_) (mI q2_) (mI q3_) (mI q4_) (mI q5_) (mI q6_) (mI q7_) (mA q8_) (mA q9_)) (k110 q0_ q1_ q2_ q3_ q4_ q5_ q6_ q7_ q8_ q9_)) {n n_j : Nat} (t_n : n = n_j) {w0_ : Int32} {w0__j : Int} (t_w0_ : mI w0_ = w0__j) {w1_ : Int32} {w1__j : Int} (t_w1_ : mI w1_ = w1__j) {w2_ : Int32} {w2__j : Int} (t_w2_ : mI w2_ = w2__j) {w3_ : Int32} {w3__j : Int} (t_w3_ : mI w3_ = w3__j) {w4_ : Int32} {w4__j : Int} (t_w4_ : mI w4_ = w4__j) {w5_ : Int32} {w5__j : Int} (t_w5_ : mI w5_ = w5__j) {w6_ : Int32} {w6__j : Int} (t_w6_ : mI w6_ = w6__j) {w7_ : Int32} {w7__j : Int} (t_w7_ : mI w7_ = w7__j) {w8_ : Int32} {w8__j : Int} (t_w8_ : mI w8_ = w8__j) {w9_ : (Nat → Int32)} {w9__j : (Nat → Int)} (t_w9_ : mA w9_ = w9__j) {w10_ : (Nat → Int32)} {w10__j : (Nat → Int)} (t_w10_ : mA w10_ = w10__j) : tl (mP mI (mP mI (mP mI (mP mI (mP mI (mP mI (mP mI (mP mI (mP mA mA))))))))) (iM_test_b2 N_j v_end_j v_allWord_j v_andWord_j v_debtWord_j v_maxWord_j v_minWord_j v_notWord_j v_orWord_j v_paidWord_j v_penceWord_j v_poundsWord_j v_shillingsWord_j v_shireWord_j v_tape_j v_termWord_j v_yearWord_j k110_j n_j w0__j w1__j w2__j w3__j w4__j w5__j w6__j w7__j w8__j w9__j w10__j) (pM_test_b2 N v_end v_allWord v_andWord v_debtWord v_maxWord v_minWord v_notWord v_orWord v_paidWord v_penceWord v_poundsWord v_shillingsWord v_shireWord v_tape v_termWord v_yearWord k110 n w0_ w1_ w2_ w3_ w4_ w5_ w6_ w7_ w8_ w9_ w10_) := by
  subst t_N
  subst t_v_end
  subst t_v_allWord
  subst t_v_andWord
  subst t_v_debtWord
  subst t_v_maxWord
  subst t_v_minWord
  subst t_v_notWord
  subst t_v_orWord
  subst t_v_paidWord
  subst t_v_penceWord
  subst t_v_poundsWord
  subst t_v_shillingsWord
  subst t_v_shireWord
  subst t_v_tape
  subst t_v_termWord
  subst t_v_yearWord
  subst t_n
  subst t_w0_
  subst t_w1_
  subst t_w2_
  subst t_w3_
  subst t_w4_
  subst t_w5_
  subst t_w6_
  subst t_w7_
  subst t_w8_
  subst t_w9_
  subst t_w10_
  exact tl_zlp11 (fun s2 s hs w0_ w1_ w2_ w3_ w4_ w5_ w6_ w7_ w8_ w9_ w10_ => t_pM_test_b2_F (Eq.refl N) (Eq.refl (mI v_end)) (Eq.refl (mA v_allWord)) (Eq.refl (mA v_andWord)) (Eq.refl (mA v_debtWord)) (Eq.refl (mA v_maxWord)) (Eq.refl (mA v_minWord)) (Eq.refl (mA v_notWord)) (Eq.refl (mA v_orWord)) (Eq.refl (mA v_paidWord)) (Eq.refl (mA v_penceWord)) (Eq.refl (mA v_poundsWord)) (Eq.refl (mA v_shillingsWord)) (Eq.refl (mA v_shireWord)) (Eq.refl (mA v_tape)) (Eq.refl (mA v_termWord)) (Eq.refl (mA v_yearWord)) t_k110 hs (Eq.refl (mI w0_)) (Eq.refl (mI w1_)) (Eq.refl (mI w2_)) (Eq.refl (mI w3_)) (Eq.refl (mI w4_)) (Eq.refl (mI w5_)) (Eq.refl (mI w6_)) (Eq.refl (mI w7_)) (Eq.refl (mI w8_)) (Eq.refl (mA w9_)) (Eq.refl (mA w10_))) n w0_ w1_ w2_ w3_ w4_ w5_ w6_ w7_ w8_ w9_ w10_
theorem t_pM_test_b110_F {N N_j : Nat} (t_N : N = N_j) {v_end : Int32} {v_end_j : Int} (t_v_end : mI v_end = v_end_j) {v_allWord : (Nat → Int32)} {v_allWord_j : (Nat → Int)} (t_v_allWord : mA v_allWord = v_allWord_j) {v_andWord : (Nat → Int32)} {v_andWord_j : (Nat → Int)} (t_v_andWord : mA v_andWord = v_andWord_j) {v_debtWord : (Nat → Int32)} {v_debtWord_j : (Nat → Int)} (t_v_debtWord : mA v_debtWord = v_debtWord_j) {v_maxWord : (Nat → Int32)} {v_maxWord_j : (Nat → Int)} (t_v_maxWord : mA v_maxWord = v_maxWord_j) {v_minWord : (Nat → Int32)} {v_minWord_j : (Nat → Int)} (t_v_minWord : mA v_minWord = v_minWord_j) {v_notWord : (Nat → Int32)} {v_notWord_j : (Nat → Int)} (t_v_notWord : mA v_notWord = v_notWord_j) {v_orWord : (Nat → Int32)} {v_orWord_j : (Nat → Int)} (t_v_orWord : mA v_orWord = v_orWord_j) {v_paidWord : (Nat → Int32)} {v_paidWord_j : (Nat → Int)} (t_v_paidWord : mA v_paidWord = v_paidWord_j) {v_penceWord : (Nat → Int32)} {v_penceWord_j : (Nat → Int)} (t_v_penceWord : mA v_penceWord = v_penceWord_j) {v_poundsWord : (Nat → Int32)} {v_poundsWord_j : (Nat → Int)} (t_v_poundsWord : mA v_poundsWord = v_poundsWord_j) {v_shillingsWord : (Nat → Int32)} {v_shillingsWord_j : (Nat → Int)} (t_v_shillingsWord : mA v_shillingsWord = v_shillingsWord_j) {v_shireWord : (Nat → Int32)} {v_shireWord_j : (Nat → Int)} (t_v_shireWord : mA v_shireWord = v_shireWord_j) {v_tape : (Nat → Int32)} {v_tape_j : (Nat → Int)} (t_v_tape : mA v_tape = v_tape_j) {v_termWord : (Nat → Int32)} {v_termWord_j : (Nat → Int)} (t_v_termWord : mA v_termWord = v_termWord_j) {v_yearWord : (Nat → Int32)} {v_yearWord_j : (Nat → Int)} (t_v_yearWord : mA v_yearWord = v_yearWord_j) {v_at : Int32} {v_at_j : Int} (t_v_at : mI v_at = v_at_j) {v_bad : Int32} {v_bad_j : Int} (t_v_bad : mI v_bad = v_bad_j) {v_badPlace : Int32} {v_badPlace_j : Int} (t_v_badPlace : mI v_badPlace = v_badPlace_j) {v_base : Int32} {v_base_j : Int} (t_v_base : mI v_base = v_base_j) {v_ended : Int32} {v_ended_j : Int} (t_v_ended : mI v_ended = v_ended_j) {v_open : Int32} {v_open_j : Int} (t_v_open : mI v_open = v_open_j) {v_wait : (Nat → Int32)} {v_wait_j : (Nat → Int)} (t_v_wait : mA v_wait = v_wait_j) {self : Int32 → Int32 → (Nat → Int32) → Option R_pM_test} {self_j : Int → Int → (Nat → Int) → Option R_iM_test} (t_self : ∀ (q0_ : Int32) (q1_ : Int32) (q2_ : (Nat → Int32)), tl (mP mI (mP mI (mP mI (mP mI (mP mI (mP mI (mP mI (mP mI (mP mA mA))))))))) (self_j (mI q0_) (mI q1_) (mA q2_)) (self q0_ q1_ q2_)) {v_coded : Int32} {v_coded_j : Int} (t_v_coded : mI v_coded = v_coded_j) {v_waits : Int32} {v_waits_j : Int} (t_v_waits : mI v_waits = v_waits_j) {v_codes : (Nat → Int32)} {v_codes_j : (Nat → Int)} (t_v_codes : mA v_codes = v_codes_j) : tl (mP mI (mP mI (mP mI (mP mI (mP mI (mP mI (mP mI (mP mI (mP mA mA))))))))) (iM_test_b110_F N_j v_end_j v_allWord_j v_andWord_j v_debtWord_j v_maxWord_j v_minWord_j v_notWord_j v_orWord_j v_paidWord_j v_penceWord_j v_poundsWord_j v_shillingsWord_j v_shireWord_j v_tape_j v_termWord_j v_yearWord_j v_at_j v_bad_j v_badPlace_j v_base_j v_ended_j v_open_j v_wait_j self_j v_coded_j v_waits_j v_codes_j) (pM_test_b110_F N v_end v_allWord v_andWord v_debtWord v_maxWord v_minWord v_notWord v_orWord v_paidWord v_penceWord v_poundsWord v_shillingsWord v_shireWord v_tape v_termWord v_yearWord v_at v_bad v_badPlace v_base v_ended v_open v_wait self v_coded v_waits v_codes) := by
  subst t_N
  subst t_v_end
  subst t_v_allWord
  subst t_v_andWord
  subst t_v_debtWord
  subst t_v_maxWord
  subst t_v_minWord
  subst t_v_notWord
  subst t_v_orWord
  subst t_v_paidWord
  subst t_v_penceWord
  subst t_v_poundsWord
  subst t_v_shillingsWord
  subst t_v_shireWord
  subst t_v_tape
  subst t_v_termWord
  subst t_v_yearWord
  subst t_v_at
  subst t_v_bad
  subst t_v_badPlace
  subst t_v_base
  subst t_v_ended
  subst t_v_open
  subst t_v_wait
  subst t_v_coded
  subst t_v_waits
  subst t_v_codes
  unfold iM_test_b110_F pM_test_b110_F
  refine tl_ite (jc_eq (Eq.refl (mI v_bad)) jlitI_0) ?_ ?_
  · refine tl_ite (jc_le (Eq.refl (mI v_waits)) jlitI_0) ?_ ?_
    · exact (tl_some (jp2 (Eq.refl (mI v_at)) (jp2 (Eq.refl (mI v_bad)) (jp2 (Eq.refl (mI v_badPlace)) (jp2 (Eq.refl (mI v_base)) (jp2 (Eq.refl (mI v_coded)) (jp2 (Eq.refl (mI v_ended)) (jp2 (Eq.refl (mI v_open)) (jp2 (Eq.refl (mI v_waits)) (jp2 (Eq.refl (mA v_codes)) (Eq.refl (mA v_wait))))))))))))
    · refine tl_bd3 (t_pM_drops (Eq.refl (mI v_coded)) (Eq.refl (mI v_waits)) (Eq.refl (mA v_codes)) (Eq.refl (mA v_wait))) (fun v_coded_c9 v_waits_c9 v_codes_c9 => ?_)
      exact (tl_e3 (Eq.refl (mI v_coded_c9)) (Eq.refl (mI v_waits_c9)) (Eq.refl (mA v_codes_c9)) (t_self _ _ _))
  · exact (tl_some (jp2 (Eq.refl (mI v_at)) (jp2 (Eq.refl (mI v_bad)) (jp2 (Eq.refl (mI v_badPlace)) (jp2 (Eq.refl (mI v_base)) (jp2 (Eq.refl (mI v_coded)) (jp2 (Eq.refl (mI v_ended)) (jp2 (Eq.refl (mI v_open)) (jp2 (Eq.refl (mI v_waits)) (jp2 (Eq.refl (mA v_codes)) (Eq.refl (mA v_wait))))))))))))
theorem t_pM_test_b110 {N N_j : Nat} (t_N : N = N_j) {v_end : Int32} {v_end_j : Int} (t_v_end : mI v_end = v_end_j) {v_allWord : (Nat → Int32)} {v_allWord_j : (Nat → Int)} (t_v_allWord : mA v_allWord = v_allWord_j) {v_andWord : (Nat → Int32)} {v_andWord_j : (Nat → Int)} (t_v_andWord : mA v_andWord = v_andWord_j) {v_debtWord : (Nat → Int32)} {v_debtWord_j : (Nat → Int)} (t_v_debtWord : mA v_debtWord = v_debtWord_j) {v_maxWord : (Nat → Int32)} {v_maxWord_j : (Nat → Int)} (t_v_maxWord : mA v_maxWord = v_maxWord_j) {v_minWord : (Nat → Int32)} {v_minWord_j : (Nat → Int)} (t_v_minWord : mA v_minWord = v_minWord_j) {v_notWord : (Nat → Int32)} {v_notWord_j : (Nat → Int)} (t_v_notWord : mA v_notWord = v_notWord_j) {v_orWord : (Nat → Int32)} {v_orWord_j : (Nat → Int)} (t_v_orWord : mA v_orWord = v_orWord_j) {v_paidWord : (Nat → Int32)} {v_paidWord_j : (Nat → Int)} (t_v_paidWord : mA v_paidWord = v_paidWord_j) {v_penceWord : (Nat → Int32)} {v_penceWord_j : (Nat → Int)} (t_v_penceWord : mA v_penceWord = v_penceWord_j) {v_poundsWord : (Nat → Int32)} {v_poundsWord_j : (Nat → Int)} (t_v_poundsWord : mA v_poundsWord = v_poundsWord_j) {v_shillingsWord : (Nat → Int32)} {v_shillingsWord_j : (Nat → Int)} (t_v_shillingsWord : mA v_shillingsWord = v_shillingsWord_j) {v_shireWord : (Nat → Int32)} {v_shireWord_j : (Nat → Int)} (t_v_shireWord : mA v_shireWord = v_shireWord_j) {v_tape : (Nat → Int32)} {v_tape_j : (Nat → Int)} (t_v_tape : mA v_tape = v_tape_j) {v_termWord : (Nat → Int32)} {v_termWord_j : (Nat → Int)} (t_v_termWord : mA v_termWord = v_termWord_j) {v_yearWord : (Nat → Int32)} {v_yearWord_j : (Nat → Int)} (t_v_yearWord : mA v_yearWord = v_yearWord_j) {v_at : Int32} {v_at_j : Int} (t_v_at : mI v_at = v_at_j) {v_bad : Int32} {v_bad_j : Int} (t_v_bad : mI v_bad = v_bad_j) {v_badPlace : Int32} {v_badPlace_j : Int} (t_v_badPlace : mI v_badPlace = v_badPlace_j) {v_base : Int32} {v_base_j : Int} (t_v_base : mI v_base = v_base_j) {v_ended : Int32} {v_ended_j : Int} (t_v_ended : mI v_ended = v_ended_j) {v_open : Int32} {v_open_j : Int} (t_v_open : mI v_open = v_open_j) {v_wait : (Nat → Int32)} {v_wait_j : (Nat → Int)} (t_v_wait : mA v_wait = v_wait_j) {n n_j : Nat} (t_n : n = n_j) {w0_ : Int32} {w0__j : Int} (t_w0_ : mI w0_ = w0__j) {w1_ : Int32} {w1__j : Int} (t_w1_ : mI w1_ = w1__j) {w2_ : (Nat → Int32)} {w2__j : (Nat → Int)} (t_w2_ : mA w2_ = w2__j) : tl (mP mI (mP mI (mP mI (mP mI (mP mI (mP mI (mP mI (mP mI (mP mA mA))))))))) (iM_test_b110 N_j v_end_j v_allWord_j v_andWord_j v_debtWord_j v_maxWord_j v_minWord_j v_notWord_j v_orWord_j v_paidWord_j v_penceWord_j v_poundsWord_j v_shillingsWord_j v_shireWord_j v_tape_j v_termWord_j v_yearWord_j v_at_j v_bad_j v_badPlace_j v_base_j v_ended_j v_open_j v_wait_j n_j w0__j w1__j w2__j) (pM_test_b110 N v_end v_allWord v_andWord v_debtWord v_maxWord v_minWord v_notWord v_orWord v_paidWord v_penceWord v_poundsWord v_shillingsWord v_shireWord v_tape v_termWord v_yearWord v_at v_bad v_badPlace v_base v_ended v_open v_wait n w0_ w1_ w2_) := by
  subst t_N
  subst t_v_end
  subst t_v_allWord
  subst t_v_andWord
  subst t_v_debtWord
  subst t_v_maxWord
  subst t_v_minWord
  subst t_v_notWord
  subst t_v_orWord
  subst t_v_paidWord
  subst t_v_penceWord
  subst t_v_poundsWord
  subst t_v_shillingsWord
  subst t_v_shireWord
  subst t_v_tape
  subst t_v_termWord
  subst t_v_yearWord
  subst t_v_at
  subst t_v_bad
  subst t_v_badPlace
  subst t_v_base
  subst t_v_ended
  subst t_v_open
  subst t_v_wait
  subst t_n
  subst t_w0_
  subst t_w1_
  subst t_w2_
  exact tl_zlp3 (fun s2 s hs w0_ w1_ w2_ => t_pM_test_b110_F (Eq.refl N) (Eq.refl (mI v_end)) (Eq.refl (mA v_allWord)) (Eq.refl (mA v_andWord)) (Eq.refl (mA v_debtWord)) (Eq.refl (mA v_maxWord)) (Eq.refl (mA v_minWord)) (Eq.refl (mA v_notWord)) (Eq.refl (mA v_orWord)) (Eq.refl (mA v_paidWord)) (Eq.refl (mA v_penceWord)) (Eq.refl (mA v_poundsWord)) (Eq.refl (mA v_shillingsWord)) (Eq.refl (mA v_shireWord)) (Eq.refl (mA v_tape)) (Eq.refl (mA v_termWord)) (Eq.refl (mA v_yearWord)) (Eq.refl (mI v_at)) (Eq.refl (mI v_bad)) (Eq.refl (mI v_badPlace)) (Eq.refl (mI v_base)) (Eq.refl (mI v_ended)) (Eq.refl (mI v_open)) (Eq.refl (mA v_wait)) hs (Eq.refl (mI w0_)) (Eq.refl (mI w1_)) (Eq.refl (mA w2_))) n w0_ w1_ w2_
theorem t_pM_test {N N_j : Nat} (t_N : N = N_j) {v_at : Int32} {v_at_j : Int} (t_v_at : mI v_at = v_at_j) {v_bad : Int32} {v_bad_j : Int} (t_v_bad : mI v_bad = v_bad_j) {v_badPlace : Int32} {v_badPlace_j : Int} (t_v_badPlace : mI v_badPlace = v_badPlace_j) {v_base : Int32} {v_base_j : Int} (t_v_base : mI v_base = v_base_j) {v_coded : Int32} {v_coded_j : Int} (t_v_coded : mI v_coded = v_coded_j) {v_end : Int32} {v_end_j : Int} (t_v_end : mI v_end = v_end_j) {v_ended : Int32} {v_ended_j : Int} (t_v_ended : mI v_ended = v_ended_j) {v_open : Int32} {v_open_j : Int} (t_v_open : mI v_open = v_open_j) {v_waits : Int32} {v_waits_j : Int} (t_v_waits : mI v_waits = v_waits_j) {v_allWord : (Nat → Int32)} {v_allWord_j : (Nat → Int)} (t_v_allWord : mA v_allWord = v_allWord_j) {v_andWord : (Nat → Int32)} {v_andWord_j : (Nat → Int)} (t_v_andWord : mA v_andWord = v_andWord_j) {v_codes : (Nat → Int32)} {v_codes_j : (Nat → Int)} (t_v_codes : mA v_codes = v_codes_j) {v_debtWord : (Nat → Int32)} {v_debtWord_j : (Nat → Int)} (t_v_debtWord : mA v_debtWord = v_debtWord_j) {v_maxWord : (Nat → Int32)} {v_maxWord_j : (Nat → Int)} (t_v_maxWord : mA v_maxWord = v_maxWord_j) {v_minWord : (Nat → Int32)} {v_minWord_j : (Nat → Int)} (t_v_minWord : mA v_minWord = v_minWord_j) {v_notWord : (Nat → Int32)} {v_notWord_j : (Nat → Int)} (t_v_notWord : mA v_notWord = v_notWord_j) {v_orWord : (Nat → Int32)} {v_orWord_j : (Nat → Int)} (t_v_orWord : mA v_orWord = v_orWord_j) {v_paidWord : (Nat → Int32)} {v_paidWord_j : (Nat → Int)} (t_v_paidWord : mA v_paidWord = v_paidWord_j) {v_penceWord : (Nat → Int32)} {v_penceWord_j : (Nat → Int)} (t_v_penceWord : mA v_penceWord = v_penceWord_j) {v_poundsWord : (Nat → Int32)} {v_poundsWord_j : (Nat → Int)} (t_v_poundsWord : mA v_poundsWord = v_poundsWord_j) {v_shillingsWord : (Nat → Int32)} {v_shillingsWord_j : (Nat → Int)} (t_v_shillingsWord : mA v_shillingsWord = v_shillingsWord_j) {v_shireWord : (Nat → Int32)} {v_shireWord_j : (Nat → Int)} (t_v_shireWord : mA v_shireWord = v_shireWord_j) {v_tape : (Nat → Int32)} {v_tape_j : (Nat → Int)} (t_v_tape : mA v_tape = v_tape_j) {v_termWord : (Nat → Int32)} {v_termWord_j : (Nat → Int)} (t_v_termWord : mA v_termWord = v_termWord_j) {v_wait : (Nat → Int32)} {v_wait_j : (Nat → Int)} (t_v_wait : mA v_wait = v_wait_j) {v_yearWord : (Nat → Int32)} {v_yearWord_j : (Nat → Int)} (t_v_yearWord : mA v_yearWord = v_yearWord_j) : tl (mP mI (mP mI (mP mI (mP mI (mP mI (mP mI (mP mI (mP mI (mP mA mA))))))))) (iM_test N_j v_at_j v_bad_j v_badPlace_j v_base_j v_coded_j v_end_j v_ended_j v_open_j v_waits_j v_allWord_j v_andWord_j v_codes_j v_debtWord_j v_maxWord_j v_minWord_j v_notWord_j v_orWord_j v_paidWord_j v_penceWord_j v_poundsWord_j v_shillingsWord_j v_shireWord_j v_tape_j v_termWord_j v_wait_j v_yearWord_j) (pM_test N v_at v_bad v_badPlace v_base v_coded v_end v_ended v_open v_waits v_allWord v_andWord v_codes v_debtWord v_maxWord v_minWord v_notWord v_orWord v_paidWord v_penceWord v_poundsWord v_shillingsWord v_shireWord v_tape v_termWord v_wait v_yearWord) := by
  subst t_N
  subst t_v_at
  subst t_v_bad
  subst t_v_badPlace
  subst t_v_base
  subst t_v_coded
  subst t_v_end
  subst t_v_ended
  subst t_v_open
  subst t_v_waits
  subst t_v_allWord
  subst t_v_andWord
  subst t_v_codes
  subst t_v_debtWord
  subst t_v_maxWord
  subst t_v_minWord
  subst t_v_notWord
  subst t_v_orWord
  subst t_v_paidWord
  subst t_v_penceWord
  subst t_v_poundsWord
  subst t_v_shillingsWord
  subst t_v_shireWord
  subst t_v_tape
  subst t_v_termWord
  subst t_v_wait
  subst t_v_yearWord
  unfold iM_test pM_test
  exact (t_pM_test_b2 (Eq.refl N) (Eq.refl (mI v_end)) (Eq.refl (mA v_allWord)) (Eq.refl (mA v_andWord)) (Eq.refl (mA v_debtWord)) (Eq.refl (mA v_maxWord)) (Eq.refl (mA v_minWord)) (Eq.refl (mA v_notWord)) (Eq.refl (mA v_orWord)) (Eq.refl (mA v_paidWord)) (Eq.refl (mA v_penceWord)) (Eq.refl (mA v_poundsWord)) (Eq.refl (mA v_shillingsWord)) (Eq.refl (mA v_shireWord)) (Eq.refl (mA v_tape)) (Eq.refl (mA v_termWord)) (Eq.refl (mA v_yearWord)) (fun v_at_k1 v_bad_k2 v_badPlace_k3 v_base_k4 v_coded_k5 v_ended_k6 v_open_k7 v_waits_k8 v_codes_k9 v_wait_k10 => by exact (t_pM_test_b110 (Eq.refl N) (Eq.refl (mI v_end)) (Eq.refl (mA v_allWord)) (Eq.refl (mA v_andWord)) (Eq.refl (mA v_debtWord)) (Eq.refl (mA v_maxWord)) (Eq.refl (mA v_minWord)) (Eq.refl (mA v_notWord)) (Eq.refl (mA v_orWord)) (Eq.refl (mA v_paidWord)) (Eq.refl (mA v_penceWord)) (Eq.refl (mA v_poundsWord)) (Eq.refl (mA v_shillingsWord)) (Eq.refl (mA v_shireWord)) (Eq.refl (mA v_tape)) (Eq.refl (mA v_termWord)) (Eq.refl (mA v_yearWord)) (Eq.refl (mI v_at_k1)) (Eq.refl (mI v_bad_k2)) (Eq.refl (mI v_badPlace_k3)) (Eq.refl (mI v_base_k4)) (Eq.refl (mI v_ended_k6)) (Eq.refl (mI v_open_k7)) (Eq.refl (mA v_wait_k10)) (Eq.refl N) (Eq.refl (mI v_coded_k5)) (Eq.refl (mI v_waits_k8)) (Eq.refl (mA v_codes_k9)))) (Eq.refl N) jlitI_1 (Eq.refl (mI v_at)) (Eq.refl (mI v_bad)) (Eq.refl (mI v_badPlace)) (Eq.refl (mI v_base)) (Eq.refl (mI v_coded)) (Eq.refl (mI v_ended)) (Eq.refl (mI v_open)) (Eq.refl (mI v_waits)) (Eq.refl (mA v_codes)) (Eq.refl (mA v_wait)))
theorem t_pM_statement_b279 {N N_j : Nat} (t_N : N = N_j) {v_end : Int32} {v_end_j : Int} (t_v_end : mI v_end = v_end_j) {v_allWord : (Nat → Int32)} {v_allWord_j : (Nat → Int)} (t_v_allWord : mA v_allWord = v_allWord_j) {v_allowWord : (Nat → Int32)} {v_allowWord_j : (Nat → Int)} (t_v_allowWord : mA v_allowWord = v_allowWord_j) {v_andWord : (Nat → Int32)} {v_andWord_j : (Nat → Int)} (t_v_andWord : mA v_andWord = v_andWord_j) {v_blanchedWord : (Nat → Int32)} {v_blanchedWord_j : (Nat → Int)} (t_v_blanchedWord : mA v_blanchedWord = v_blanchedWord_j) {v_debtWord : (Nat → Int32)} {v_debtWord_j : (Nat → Int)} (t_v_debtWord : mA v_debtWord = v_debtWord_j) {v_farmWord : (Nat → Int32)} {v_farmWord_j : (Nat → Int)} (t_v_farmWord : mA v_farmWord = v_farmWord_j) {v_forWord : (Nat → Int32)} {v_forWord_j : (Nat → Int)} (t_v_forWord : mA v_forWord = v_forWord_j) {v_inWord : (Nat → Int32)} {v_inWord_j : (Nat → Int)} (t_v_inWord : mA v_inWord = v_inWord_j) {v_maxWord : (Nat → Int32)} {v_maxWord_j : (Nat → Int)} (t_v_maxWord : mA v_maxWord = v_maxWord_j) {v_minWord : (Nat → Int32)} {v_minWord_j : (Nat → Int)} (t_v_minWord : mA v_minWord = v_minWord_j) {v_notWord : (Nat → Int32)} {v_notWord_j : (Nat → Int)} (t_v_notWord : mA v_notWord = v_notWord_j) {v_orWord : (Nat → Int32)} {v_orWord_j : (Nat → Int)} (t_v_orWord : mA v_orWord = v_orWord_j) {v_paidWord : (Nat → Int32)} {v_paidWord_j : (Nat → Int)} (t_v_paidWord : mA v_paidWord = v_paidWord_j) {v_pardonWord : (Nat → Int32)} {v_pardonWord_j : (Nat → Int)} (t_v_pardonWord : mA v_pardonWord = v_pardonWord_j) {v_penceWord : (Nat → Int32)} {v_penceWord_j : (Nat → Int)} (t_v_penceWord : mA v_penceWord = v_penceWord_j) {v_poundsWord : (Nat → Int32)} {v_poundsWord_j : (Nat → Int)} (t_v_poundsWord : mA v_poundsWord = v_poundsWord_j) {v_shillingsWord : (Nat → Int32)} {v_shillingsWord_j : (Nat → Int)} (t_v_shillingsWord : mA v_shillingsWord = v_shillingsWord_j) {v_shireWord : (Nat → Int32)} {v_shireWord_j : (Nat → Int)} (t_v_shireWord : mA v_shireWord = v_shireWord_j) {v_splitWord : (Nat → Int32)} {v_splitWord_j : (Nat → Int)} (t_v_splitWord : mA v_splitWord = v_splitWord_j) {v_tape : (Nat → Int32)} {v_tape_j : (Nat → Int)} (t_v_tape : mA v_tape = v_tape_j) {v_termWord : (Nat → Int32)} {v_termWord_j : (Nat → Int)} (t_v_termWord : mA v_termWord = v_termWord_j) {v_yearWord : (Nat → Int32)} {v_yearWord_j : (Nat → Int)} (t_v_yearWord : mA v_yearWord = v_yearWord_j) {x1 : Int32} {x1_j : Int} (t_x1 : mI x1 = x1_j) {v_at : Int32} {v_at_j : Int} (t_v_at : mI v_at = v_at_j) {v_bad : Int32} {v_bad_j : Int} (t_v_bad : mI v_bad = v_bad_j) {v_badPlace : Int32} {v_badPlace_j : Int} (t_v_badPlace : mI v_badPlace = v_badPlace_j) {v_base : Int32} {v_base_j : Int} (t_v_base : mI v_base = v_base_j) {v_coded : Int32} {v_coded_j : Int} (t_v_coded : mI v_coded = v_coded_j) {v_ended : Int32} {v_ended_j : Int} (t_v_ended : mI v_ended = v_ended_j) {v_open : Int32} {v_open_j : Int} (t_v_open : mI v_open = v_open_j) {v_waits : Int32} {v_waits_j : Int} (t_v_waits : mI v_waits = v_waits_j) {v_codes : (Nat → Int32)} {v_codes_j : (Nat → Int)} (t_v_codes : mA v_codes = v_codes_j) {v_first : (Nat → Int32)} {v_first_j : (Nat → Int)} (t_v_first : mA v_first = v_first_j) {v_isBlanched : (Nat → Int32)} {v_isBlanched_j : (Nat → Int)} (t_v_isBlanched : mA v_isBlanched = v_isBlanched_j) {v_many : (Nat → Int32)} {v_many_j : (Nat → Int)} (t_v_many : mA v_many = v_many_j) {v_second : (Nat → Int32)} {v_second_j : (Nat → Int)} (t_v_second : mA v_second = v_second_j) {v_sort : (Nat → Int32)} {v_sort_j : (Nat → Int)} (t_v_sort : mA v_sort = v_sort_j) {v_sumEnd : (Nat → Int32)} {v_sumEnd_j : (Nat → Int)} (t_v_sumEnd : mA v_sumEnd = v_sumEnd_j) {v_sumFrom : (Nat → Int32)} {v_sumFrom_j : (Nat → Int)} (t_v_sumFrom : mA v_sumFrom = v_sumFrom_j) {v_testEnd : (Nat → Int32)} {v_testEnd_j : (Nat → Int)} (t_v_testEnd : mA v_testEnd = v_testEnd_j) {v_wait : (Nat → Int32)} {v_wait_j : (Nat → Int)} (t_v_wait : mA v_wait = v_wait_j) : tl (mP mI (mP mI (mP mI (mP mI (mP mI (mP mI (mP mI (mP mI (mP mA (mP mA (mP mA (mP mA (mP mA (mP mA (mP mA (mP mA (mP mA mA))))))))))))))))) (iM_statement_b279 N_j v_end_j v_allWord_j v_allowWord_j v_andWord_j v_blanchedWord_j v_debtWord_j v_farmWord_j v_forWord_j v_inWord_j v_maxWord_j v_minWord_j v_notWord_j v_orWord_j v_paidWord_j v_pardonWord_j v_penceWord_j v_poundsWord_j v_shillingsWord_j v_shireWord_j v_splitWord_j v_tape_j v_termWord_j v_yearWord_j x1_j v_at_j v_bad_j v_badPlace_j v_base_j v_coded_j v_ended_j v_open_j v_waits_j v_codes_j v_first_j v_isBlanched_j v_many_j v_second_j v_sort_j v_sumEnd_j v_sumFrom_j v_testEnd_j v_wait_j) (pM_statement_b279 N v_end v_allWord v_allowWord v_andWord v_blanchedWord v_debtWord v_farmWord v_forWord v_inWord v_maxWord v_minWord v_notWord v_orWord v_paidWord v_pardonWord v_penceWord v_poundsWord v_shillingsWord v_shireWord v_splitWord v_tape v_termWord v_yearWord x1 v_at v_bad v_badPlace v_base v_coded v_ended v_open v_waits v_codes v_first v_isBlanched v_many v_second v_sort v_sumEnd v_sumFrom v_testEnd v_wait) := by
  subst t_N
  subst t_v_end
  subst t_v_allWord
  subst t_v_allowWord
  subst t_v_andWord
  subst t_v_blanchedWord
  subst t_v_debtWord
  subst t_v_farmWord
  subst t_v_forWord
  subst t_v_inWord
  subst t_v_maxWord
  subst t_v_minWord
  subst t_v_notWord
  subst t_v_orWord
  subst t_v_paidWord
  subst t_v_pardonWord
  subst t_v_penceWord
  subst t_v_poundsWord
  subst t_v_shillingsWord
  subst t_v_shireWord
  subst t_v_splitWord
  subst t_v_tape
  subst t_v_termWord
  subst t_v_yearWord
  subst t_x1
  subst t_v_at
  subst t_v_bad
  subst t_v_badPlace
  subst t_v_base
  subst t_v_coded
  subst t_v_ended
  subst t_v_open
  subst t_v_waits
  subst t_v_codes
  subst t_v_first
  subst t_v_isBlanched
  subst t_v_many
  subst t_v_second
  subst t_v_sort
  subst t_v_sumEnd
  subst t_v_sumFrom
  subst t_v_testEnd
  subst t_v_wait
  unfold iM_statement_b279 pM_statement_b279
  refine tl_gd (jg_ib (Eq.refl (mI x1))) (fun _ => ?_)
  refine tl_bd3 (t_pM_asksSign (Eq.refl N) jlitI_59 (Eq.refl (mI v_at)) (Eq.refl (mI v_bad)) (Eq.refl (mI v_badPlace)) (Eq.refl (mI v_end)) (Eq.refl (mA v_tape))) (fun v_at_c20 v_bad_c20 v_badPlace_c20 => ?_)
  refine tl_g (fun h1 => ?_)
  exact (tl_some (jp2 (Eq.refl (mI v_at_c20)) (jp2 (Eq.refl (mI v_bad_c20)) (jp2 (Eq.refl (mI v_badPlace_c20)) (jp2 (Eq.refl (mI v_base)) (jp2 (Eq.refl (mI v_coded)) (jp2 (Eq.refl (mI v_ended)) (jp2 (Eq.refl (mI v_open)) (jp2 (Eq.refl (mI v_waits)) (jp2 (Eq.refl (mA v_codes)) (jp2 (Eq.refl (mA v_first)) (jp2 (Eq.refl (mA v_isBlanched)) (jp2 (jupA (Eq.refl (mA v_many)) (jx jlitI_0) (ja_add (jrd (Eq.refl (mA v_many)) (jx jlitI_0)) jlitI_1 h1)) (jp2 (Eq.refl (mA v_second)) (jp2 (Eq.refl (mA v_sort)) (jp2 (Eq.refl (mA v_sumEnd)) (jp2 (Eq.refl (mA v_sumFrom)) (jp2 (jupA (Eq.refl (mA v_testEnd)) (jx (Eq.refl (mI x1))) (Eq.refl (mI v_coded))) (Eq.refl (mA v_wait))))))))))))))))))))
theorem t_pM_statement_b250 {N N_j : Nat} (t_N : N = N_j) {v_end : Int32} {v_end_j : Int} (t_v_end : mI v_end = v_end_j) {v_allWord : (Nat → Int32)} {v_allWord_j : (Nat → Int)} (t_v_allWord : mA v_allWord = v_allWord_j) {v_allowWord : (Nat → Int32)} {v_allowWord_j : (Nat → Int)} (t_v_allowWord : mA v_allowWord = v_allowWord_j) {v_andWord : (Nat → Int32)} {v_andWord_j : (Nat → Int)} (t_v_andWord : mA v_andWord = v_andWord_j) {v_blanchedWord : (Nat → Int32)} {v_blanchedWord_j : (Nat → Int)} (t_v_blanchedWord : mA v_blanchedWord = v_blanchedWord_j) {v_debtWord : (Nat → Int32)} {v_debtWord_j : (Nat → Int)} (t_v_debtWord : mA v_debtWord = v_debtWord_j) {v_farmWord : (Nat → Int32)} {v_farmWord_j : (Nat → Int)} (t_v_farmWord : mA v_farmWord = v_farmWord_j) {v_forWord : (Nat → Int32)} {v_forWord_j : (Nat → Int)} (t_v_forWord : mA v_forWord = v_forWord_j) {v_inWord : (Nat → Int32)} {v_inWord_j : (Nat → Int)} (t_v_inWord : mA v_inWord = v_inWord_j) {v_maxWord : (Nat → Int32)} {v_maxWord_j : (Nat → Int)} (t_v_maxWord : mA v_maxWord = v_maxWord_j) {v_minWord : (Nat → Int32)} {v_minWord_j : (Nat → Int)} (t_v_minWord : mA v_minWord = v_minWord_j) {v_notWord : (Nat → Int32)} {v_notWord_j : (Nat → Int)} (t_v_notWord : mA v_notWord = v_notWord_j) {v_orWord : (Nat → Int32)} {v_orWord_j : (Nat → Int)} (t_v_orWord : mA v_orWord = v_orWord_j) {v_paidWord : (Nat → Int32)} {v_paidWord_j : (Nat → Int)} (t_v_paidWord : mA v_paidWord = v_paidWord_j) {v_pardonWord : (Nat → Int32)} {v_pardonWord_j : (Nat → Int)} (t_v_pardonWord : mA v_pardonWord = v_pardonWord_j) {v_penceWord : (Nat → Int32)} {v_penceWord_j : (Nat → Int)} (t_v_penceWord : mA v_penceWord = v_penceWord_j) {v_poundsWord : (Nat → Int32)} {v_poundsWord_j : (Nat → Int)} (t_v_poundsWord : mA v_poundsWord = v_poundsWord_j) {v_shillingsWord : (Nat → Int32)} {v_shillingsWord_j : (Nat → Int)} (t_v_shillingsWord : mA v_shillingsWord = v_shillingsWord_j) {v_shireWord : (Nat → Int32)} {v_shireWord_j : (Nat → Int)} (t_v_shireWord : mA v_shireWord = v_shireWord_j) {v_splitWord : (Nat → Int32)} {v_splitWord_j : (Nat → Int)} (t_v_splitWord : mA v_splitWord = v_splitWord_j) {v_tape : (Nat → Int32)} {v_tape_j : (Nat → Int)} (t_v_tape : mA v_tape = v_tape_j) {v_termWord : (Nat → Int32)} {v_termWord_j : (Nat → Int)} (t_v_termWord : mA v_termWord = v_termWord_j) {v_yearWord : (Nat → Int32)} {v_yearWord_j : (Nat → Int)} (t_v_yearWord : mA v_yearWord = v_yearWord_j) {x1 : Int32} {x1_j : Int} (t_x1 : mI x1 = x1_j) {v_at : Int32} {v_at_j : Int} (t_v_at : mI v_at = v_at_j) {v_bad : Int32} {v_bad_j : Int} (t_v_bad : mI v_bad = v_bad_j) {v_badPlace : Int32} {v_badPlace_j : Int} (t_v_badPlace : mI v_badPlace = v_badPlace_j) {v_base : Int32} {v_base_j : Int} (t_v_base : mI v_base = v_base_j) {v_coded : Int32} {v_coded_j : Int} (t_v_coded : mI v_coded = v_coded_j) {v_ended : Int32} {v_ended_j : Int} (t_v_ended : mI v_ended = v_ended_j) {v_open : Int32} {v_open_j : Int} (t_v_open : mI v_open = v_open_j) {v_waits : Int32} {v_waits_j : Int} (t_v_waits : mI v_waits = v_waits_j) {v_codes : (Nat → Int32)} {v_codes_j : (Nat → Int)} (t_v_codes : mA v_codes = v_codes_j) {v_first : (Nat → Int32)} {v_first_j : (Nat → Int)} (t_v_first : mA v_first = v_first_j) {v_isBlanched : (Nat → Int32)} {v_isBlanched_j : (Nat → Int)} (t_v_isBlanched : mA v_isBlanched = v_isBlanched_j) {v_many : (Nat → Int32)} {v_many_j : (Nat → Int)} (t_v_many : mA v_many = v_many_j) {v_second : (Nat → Int32)} {v_second_j : (Nat → Int)} (t_v_second : mA v_second = v_second_j) {v_sort : (Nat → Int32)} {v_sort_j : (Nat → Int)} (t_v_sort : mA v_sort = v_sort_j) {v_sumEnd : (Nat → Int32)} {v_sumEnd_j : (Nat → Int)} (t_v_sumEnd : mA v_sumEnd = v_sumEnd_j) {v_sumFrom : (Nat → Int32)} {v_sumFrom_j : (Nat → Int)} (t_v_sumFrom : mA v_sumFrom = v_sumFrom_j) {v_testEnd : (Nat → Int32)} {v_testEnd_j : (Nat → Int)} (t_v_testEnd : mA v_testEnd = v_testEnd_j) {v_wait : (Nat → Int32)} {v_wait_j : (Nat → Int)} (t_v_wait : mA v_wait = v_wait_j) : tl (mP mI (mP mI (mP mI (mP mI (mP mI (mP mI (mP mI (mP mI (mP mA (mP mA (mP mA (mP mA (mP mA (mP mA (mP mA (mP mA (mP mA mA))))))))))))))))) (iM_statement_b250 N_j v_end_j v_allWord_j v_allowWord_j v_andWord_j v_blanchedWord_j v_debtWord_j v_farmWord_j v_forWord_j v_inWord_j v_maxWord_j v_minWord_j v_notWord_j v_orWord_j v_paidWord_j v_pardonWord_j v_penceWord_j v_poundsWord_j v_shillingsWord_j v_shireWord_j v_splitWord_j v_tape_j v_termWord_j v_yearWord_j x1_j v_at_j v_bad_j v_badPlace_j v_base_j v_coded_j v_ended_j v_open_j v_waits_j v_codes_j v_first_j v_isBlanched_j v_many_j v_second_j v_sort_j v_sumEnd_j v_sumFrom_j v_testEnd_j v_wait_j) (pM_statement_b250 N v_end v_allWord v_allowWord v_andWord v_blanchedWord v_debtWord v_farmWord v_forWord v_inWord v_maxWord v_minWord v_notWord v_orWord v_paidWord v_pardonWord v_penceWord v_poundsWord v_shillingsWord v_shireWord v_splitWord v_tape v_termWord v_yearWord x1 v_at v_bad v_badPlace v_base v_coded v_ended v_open v_waits v_codes v_first v_isBlanched v_many v_second v_sort v_sumEnd v_sumFrom v_testEnd v_wait) := by
  subst t_N
  subst t_v_end
  subst t_v_allWord
  subst t_v_allowWord
  subst t_v_andWord
  subst t_v_blanchedWord
  subst t_v_debtWord
  subst t_v_farmWord
  subst t_v_forWord
  subst t_v_inWord
  subst t_v_maxWord
  subst t_v_minWord
  subst t_v_notWord
  subst t_v_orWord
  subst t_v_paidWord
  subst t_v_pardonWord
  subst t_v_penceWord
  subst t_v_poundsWord
  subst t_v_shillingsWord
  subst t_v_shireWord
  subst t_v_splitWord
  subst t_v_tape
  subst t_v_termWord
  subst t_v_yearWord
  subst t_x1
  subst t_v_at
  subst t_v_bad
  subst t_v_badPlace
  subst t_v_base
  subst t_v_coded
  subst t_v_ended
  subst t_v_open
  subst t_v_waits
  subst t_v_codes
  subst t_v_first
  subst t_v_isBlanched
  subst t_v_many
  subst t_v_second
  subst t_v_sort
  subst t_v_sumEnd
  subst t_v_sumFrom
  subst t_v_testEnd
  subst t_v_wait
  unfold iM_statement_b250 pM_statement_b250
  refine tl_gd (jg_ib (Eq.refl (mI x1))) (fun _ => ?_)
  refine tl_bd4 (t_pM_asks (Eq.refl N) (Eq.refl _) (Eq.refl (mA v_forWord)) (Eq.refl (mI v_at)) (Eq.refl (mI v_bad)) (Eq.refl (mI v_badPlace)) (Eq.refl (mI v_end)) (Eq.refl (mI v_ended)) (Eq.refl (mA v_tape))) (fun v_at_c17 v_bad_c17 v_badPlace_c17 v_ended_c17 => ?_)
  refine tl_ite (jc_eq (Eq.refl (mI v_bad_c17)) jlitI_0) ?_ ?_
  · refine tl_bd10 (t_pM_test (Eq.refl N) (Eq.refl (mI v_at_c17)) (Eq.refl (mI v_bad_c17)) (Eq.refl (mI v_badPlace_c17)) (Eq.refl (mI v_base)) (Eq.refl (mI v_coded)) (Eq.refl (mI v_end)) (Eq.refl (mI v_ended_c17)) (Eq.refl (mI v_open)) (Eq.refl (mI v_waits)) (Eq.refl (mA v_allWord)) (Eq.refl (mA v_andWord)) (Eq.refl (mA v_codes)) (Eq.refl (mA v_debtWord)) (Eq.refl (mA v_maxWord)) (Eq.refl (mA v_minWord)) (Eq.refl (mA v_notWord)) (Eq.refl (mA v_orWord)) (Eq.refl (mA v_paidWord)) (Eq.refl (mA v_penceWord)) (Eq.refl (mA v_poundsWord)) (Eq.refl (mA v_shillingsWord)) (Eq.refl (mA v_shireWord)) (Eq.refl (mA v_tape)) (Eq.refl (mA v_termWord)) (Eq.refl (mA v_wait)) (Eq.refl (mA v_yearWord))) (fun v_at_c18 v_bad_c18 v_badPlace_c18 v_base_c18 v_coded_c18 v_ended_c18 v_open_c18 v_waits_c18 v_codes_c18 v_wait_c18 => ?_)
    exact (t_pM_statement_b279 (Eq.refl N) (Eq.refl (mI v_end)) (Eq.refl (mA v_allWord)) (Eq.refl (mA v_allowWord)) (Eq.refl (mA v_andWord)) (Eq.refl (mA v_blanchedWord)) (Eq.refl (mA v_debtWord)) (Eq.refl (mA v_farmWord)) (Eq.refl (mA v_forWord)) (Eq.refl (mA v_inWord)) (Eq.refl (mA v_maxWord)) (Eq.refl (mA v_minWord)) (Eq.refl (mA v_notWord)) (Eq.refl (mA v_orWord)) (Eq.refl (mA v_paidWord)) (Eq.refl (mA v_pardonWord)) (Eq.refl (mA v_penceWord)) (Eq.refl (mA v_poundsWord)) (Eq.refl (mA v_shillingsWord)) (Eq.refl (mA v_shireWord)) (Eq.refl (mA v_splitWord)) (Eq.refl (mA v_tape)) (Eq.refl (mA v_termWord)) (Eq.refl (mA v_yearWord)) (Eq.refl (mI x1)) (Eq.refl (mI v_at_c18)) (Eq.refl (mI v_bad_c18)) (Eq.refl (mI v_badPlace_c18)) (Eq.refl (mI v_base_c18)) (Eq.refl (mI v_coded_c18)) (Eq.refl (mI v_ended_c18)) (Eq.refl (mI v_open_c18)) (Eq.refl (mI v_waits_c18)) (Eq.refl (mA v_codes_c18)) (Eq.refl (mA v_first)) (Eq.refl (mA v_isBlanched)) (Eq.refl (mA v_many)) (Eq.refl (mA v_second)) (Eq.refl (mA v_sort)) (jupA (Eq.refl (mA v_sumEnd)) (jx (Eq.refl (mI x1))) (Eq.refl (mI v_coded))) (Eq.refl (mA v_sumFrom)) (Eq.refl (mA v_testEnd)) (Eq.refl (mA v_wait_c18)))
  · exact (t_pM_statement_b279 (Eq.refl N) (Eq.refl (mI v_end)) (Eq.refl (mA v_allWord)) (Eq.refl (mA v_allowWord)) (Eq.refl (mA v_andWord)) (Eq.refl (mA v_blanchedWord)) (Eq.refl (mA v_debtWord)) (Eq.refl (mA v_farmWord)) (Eq.refl (mA v_forWord)) (Eq.refl (mA v_inWord)) (Eq.refl (mA v_maxWord)) (Eq.refl (mA v_minWord)) (Eq.refl (mA v_notWord)) (Eq.refl (mA v_orWord)) (Eq.refl (mA v_paidWord)) (Eq.refl (mA v_pardonWord)) (Eq.refl (mA v_penceWord)) (Eq.refl (mA v_poundsWord)) (Eq.refl (mA v_shillingsWord)) (Eq.refl (mA v_shireWord)) (Eq.refl (mA v_splitWord)) (Eq.refl (mA v_tape)) (Eq.refl (mA v_termWord)) (Eq.refl (mA v_yearWord)) (Eq.refl (mI x1)) (Eq.refl (mI v_at_c17)) (Eq.refl (mI v_bad_c17)) (Eq.refl (mI v_badPlace_c17)) (Eq.refl (mI v_base)) (Eq.refl (mI v_coded)) (Eq.refl (mI v_ended_c17)) (Eq.refl (mI v_open)) (Eq.refl (mI v_waits)) (Eq.refl (mA v_codes)) (Eq.refl (mA v_first)) (Eq.refl (mA v_isBlanched)) (Eq.refl (mA v_many)) (Eq.refl (mA v_second)) (Eq.refl (mA v_sort)) (jupA (Eq.refl (mA v_sumEnd)) (jx (Eq.refl (mI x1))) (Eq.refl (mI v_coded))) (Eq.refl (mA v_sumFrom)) (Eq.refl (mA v_testEnd)) (Eq.refl (mA v_wait)))
theorem t_pM_statement {N N_j : Nat} (t_N : N = N_j) {v_at : Int32} {v_at_j : Int} (t_v_at : mI v_at = v_at_j) {v_bad : Int32} {v_bad_j : Int} (t_v_bad : mI v_bad = v_bad_j) {v_badPlace : Int32} {v_badPlace_j : Int} (t_v_badPlace : mI v_badPlace = v_badPlace_j) {v_base : Int32} {v_base_j : Int} (t_v_base : mI v_base = v_base_j) {v_coded : Int32} {v_coded_j : Int} (t_v_coded : mI v_coded = v_coded_j) {v_end : Int32} {v_end_j : Int} (t_v_end : mI v_end = v_end_j) {v_ended : Int32} {v_ended_j : Int} (t_v_ended : mI v_ended = v_ended_j) {v_open : Int32} {v_open_j : Int} (t_v_open : mI v_open = v_open_j) {v_waits : Int32} {v_waits_j : Int} (t_v_waits : mI v_waits = v_waits_j) {v_allWord : (Nat → Int32)} {v_allWord_j : (Nat → Int)} (t_v_allWord : mA v_allWord = v_allWord_j) {v_allowWord : (Nat → Int32)} {v_allowWord_j : (Nat → Int)} (t_v_allowWord : mA v_allowWord = v_allowWord_j) {v_andWord : (Nat → Int32)} {v_andWord_j : (Nat → Int)} (t_v_andWord : mA v_andWord = v_andWord_j) {v_blanchedWord : (Nat → Int32)} {v_blanchedWord_j : (Nat → Int)} (t_v_blanchedWord : mA v_blanchedWord = v_blanchedWord_j) {v_codes : (Nat → Int32)} {v_codes_j : (Nat → Int)} (t_v_codes : mA v_codes = v_codes_j) {v_debtWord : (Nat → Int32)} {v_debtWord_j : (Nat → Int)} (t_v_debtWord : mA v_debtWord = v_debtWord_j) {v_farmWord : (Nat → Int32)} {v_farmWord_j : (Nat → Int)} (t_v_farmWord : mA v_farmWord = v_farmWord_j) {v_first : (Nat → Int32)} {v_first_j : (Nat → Int)} (t_v_first : mA v_first = v_first_j) {v_forWord : (Nat → Int32)} {v_forWord_j : (Nat → Int)} (t_v_forWord : mA v_forWord = v_forWord_j) {v_inWord : (Nat → Int32)} {v_inWord_j : (Nat → Int)} (t_v_inWord : mA v_inWord = v_inWord_j) {v_isBlanched : (Nat → Int32)} {v_isBlanched_j : (Nat → Int)} (t_v_isBlanched : mA v_isBlanched = v_isBlanched_j) {v_many : (Nat → Int32)} {v_many_j : (Nat → Int)} (t_v_many : mA v_many = v_many_j) {v_maxWord : (Nat → Int32)} {v_maxWord_j : (Nat → Int)} (t_v_maxWord : mA v_maxWord = v_maxWord_j) {v_minWord : (Nat → Int32)} {v_minWord_j : (Nat → Int)} (t_v_minWord : mA v_minWord = v_minWord_j) {v_notWord : (Nat → Int32)} {v_notWord_j : (Nat → Int)} (t_v_notWord : mA v_notWord = v_notWord_j) {v_orWord : (Nat → Int32)} {v_orWord_j : (Nat → Int)} (t_v_orWord : mA v_orWord = v_orWord_j) {v_paidWord : (Nat → Int32)} {v_paidWord_j : (Nat → Int)} (t_v_paidWord : mA v_paidWord = v_paidWord_j) {v_pardonWord : (Nat → Int32)} {v_pardonWord_j : (Nat → Int)} (t_v_pardonWord : mA v_pardonWord = v_pardonWord_j) {v_penceWord : (Nat → Int32)} {v_penceWord_j : (Nat → Int)} (t_v_penceWord : mA v_penceWord = v_penceWord_j) {v_poundsWord : (Nat → Int32)} {v_poundsWord_j : (Nat → Int)} (t_v_poundsWord : mA v_poundsWord = v_poundsWord_j) {v_second : (Nat → Int32)} {v_second_j : (Nat → Int)} (t_v_second : mA v_second = v_second_j) {v_shillingsWord : (Nat → Int32)} {v_shillingsWord_j : (Nat → Int)} (t_v_shillingsWord : mA v_shillingsWord = v_shillingsWord_j) {v_shireWord : (Nat → Int32)} {v_shireWord_j : (Nat → Int)} (t_v_shireWord : mA v_shireWord = v_shireWord_j) {v_sort : (Nat → Int32)} {v_sort_j : (Nat → Int)} (t_v_sort : mA v_sort = v_sort_j) {v_splitWord : (Nat → Int32)} {v_splitWord_j : (Nat → Int)} (t_v_splitWord : mA v_splitWord = v_splitWord_j) {v_sumEnd : (Nat → Int32)} {v_sumEnd_j : (Nat → Int)} (t_v_sumEnd : mA v_sumEnd = v_sumEnd_j) {v_sumFrom : (Nat → Int32)} {v_sumFrom_j : (Nat → Int)} (t_v_sumFrom : mA v_sumFrom = v_sumFrom_j) {v_tape : (Nat → Int32)} {v_tape_j : (Nat → Int)} (t_v_tape : mA v_tape = v_tape_j) {v_termWord : (Nat → Int32)} {v_termWord_j : (Nat → Int)} (t_v_termWord : mA v_termWord = v_termWord_j) {v_testEnd : (Nat → Int32)} {v_testEnd_j : (Nat → Int)} (t_v_testEnd : mA v_testEnd = v_testEnd_j) {v_wait : (Nat → Int32)} {v_wait_j : (Nat → Int)} (t_v_wait : mA v_wait = v_wait_j) {v_yearWord : (Nat → Int32)} {v_yearWord_j : (Nat → Int)} (t_v_yearWord : mA v_yearWord = v_yearWord_j) : tl (mP mI (mP mI (mP mI (mP mI (mP mI (mP mI (mP mI (mP mI (mP mA (mP mA (mP mA (mP mA (mP mA (mP mA (mP mA (mP mA (mP mA mA))))))))))))))))) (iM_statement N_j v_at_j v_bad_j v_badPlace_j v_base_j v_coded_j v_end_j v_ended_j v_open_j v_waits_j v_allWord_j v_allowWord_j v_andWord_j v_blanchedWord_j v_codes_j v_debtWord_j v_farmWord_j v_first_j v_forWord_j v_inWord_j v_isBlanched_j v_many_j v_maxWord_j v_minWord_j v_notWord_j v_orWord_j v_paidWord_j v_pardonWord_j v_penceWord_j v_poundsWord_j v_second_j v_shillingsWord_j v_shireWord_j v_sort_j v_splitWord_j v_sumEnd_j v_sumFrom_j v_tape_j v_termWord_j v_testEnd_j v_wait_j v_yearWord_j) (pM_statement N v_at v_bad v_badPlace v_base v_coded v_end v_ended v_open v_waits v_allWord v_allowWord v_andWord v_blanchedWord v_codes v_debtWord v_farmWord v_first v_forWord v_inWord v_isBlanched v_many v_maxWord v_minWord v_notWord v_orWord v_paidWord v_pardonWord v_penceWord v_poundsWord v_second v_shillingsWord v_shireWord v_sort v_splitWord v_sumEnd v_sumFrom v_tape v_termWord v_testEnd v_wait v_yearWord) := by
  subst t_N
  subst t_v_at
  subst t_v_bad
  subst t_v_badPlace
  subst t_v_base
  subst t_v_coded
  subst t_v_end
  subst t_v_ended
  subst t_v_open
  subst t_v_waits
  subst t_v_allWord
  subst t_v_allowWord
  subst t_v_andWord
  subst t_v_blanchedWord
  subst t_v_codes
  subst t_v_debtWord
  subst t_v_farmWord
  subst t_v_first
  subst t_v_forWord
  subst t_v_inWord
  subst t_v_isBlanched
  subst t_v_many
  subst t_v_maxWord
  subst t_v_minWord
  subst t_v_notWord
  subst t_v_orWord
  subst t_v_paidWord
  subst t_v_pardonWord
  subst t_v_penceWord
  subst t_v_poundsWord
  subst t_v_second
  subst t_v_shillingsWord
  subst t_v_shireWord
  subst t_v_sort
  subst t_v_splitWord
  subst t_v_sumEnd
  subst t_v_sumFrom
  subst t_v_tape
  subst t_v_termWord
  subst t_v_testEnd
  subst t_v_wait
  subst t_v_yearWord
  unfold iM_statement pM_statement
  refine tl_bd2 (t_pM_look (Eq.refl N) (Eq.refl (mI v_at)) (Eq.refl (mI v_end)) (Eq.refl (mA v_tape))) (fun rc1 v_at_c1 => ?_)
  refine tl_ite (jc_eq (jrd (Eq.refl (mA v_many)) (jx jlitI_0)) jlitI_24) ?_ ?_
  · refine tl_bd2 (t_pM_fail jlitI_4 (Eq.refl (mI v_at_c1)) (Eq.refl (mI v_bad)) (Eq.refl (mI v_badPlace))) (fun v_bad_c15 v_badPlace_c15 => ?_)
    exact (tl_some (jp2 (Eq.refl (mI v_at_c1)) (jp2 (Eq.refl (mI v_bad_c15)) (jp2 (Eq.refl (mI v_badPlace_c15)) (jp2 (Eq.refl (mI v_base)) (jp2 (Eq.refl (mI v_coded)) (jp2 (Eq.refl (mI v_ended)) (jp2 (Eq.refl (mI v_open)) (jp2 (Eq.refl (mI v_waits)) (jp2 (Eq.refl (mA v_codes)) (jp2 (Eq.refl (mA v_first)) (jp2 (Eq.refl (mA v_isBlanched)) (jp2 (Eq.refl (mA v_many)) (jp2 (Eq.refl (mA v_second)) (jp2 (Eq.refl (mA v_sort)) (jp2 (Eq.refl (mA v_sumEnd)) (jp2 (Eq.refl (mA v_sumFrom)) (jp2 (Eq.refl (mA v_testEnd)) (Eq.refl (mA v_wait))))))))))))))))))))
  · refine tl_g (fun h1 => ?_)
    refine tl_gd (jg_ib (ja_add jlitI_0 (jrd (Eq.refl (mA v_many)) (jx jlitI_0)) h1)) (fun _ => ?_)
    refine tl_bd3 (t_pM_takes (Eq.refl N) (Eq.refl _) (Eq.refl (mA v_farmWord)) (Eq.refl (mI v_at_c1)) (Eq.refl (mI v_bad)) (Eq.refl (mI v_end)) (Eq.refl (mI v_ended)) (Eq.refl (mA v_tape))) (fun rc3 v_at_c3 v_ended_c3 => ?_)
    refine tl_ite (jc_eq (Eq.refl (mI rc3)) jlitI_0) ?_ ?_
    · refine tl_bd3 (t_pM_takes (Eq.refl N) (Eq.refl _) (Eq.refl (mA v_allowWord)) (Eq.refl (mI v_at_c3)) (Eq.refl (mI v_bad)) (Eq.refl (mI v_end)) (Eq.refl (mI v_ended_c3)) (Eq.refl (mA v_tape))) (fun rc4 v_at_c4 v_ended_c4 => ?_)
      refine tl_ite (jc_eq (Eq.refl (mI rc4)) jlitI_0) ?_ ?_
      · refine tl_bd3 (t_pM_takes (Eq.refl N) (Eq.refl _) (Eq.refl (mA v_pardonWord)) (Eq.refl (mI v_at_c4)) (Eq.refl (mI v_bad)) (Eq.refl (mI v_end)) (Eq.refl (mI v_ended_c4)) (Eq.refl (mA v_tape))) (fun rc5 v_at_c5 v_ended_c5 => ?_)
        refine tl_ite (jc_eq (Eq.refl (mI rc5)) jlitI_0) ?_ ?_
        · refine tl_bd3 (t_pM_takes (Eq.refl N) (Eq.refl _) (Eq.refl (mA v_splitWord)) (Eq.refl (mI v_at_c5)) (Eq.refl (mI v_bad)) (Eq.refl (mI v_end)) (Eq.refl (mI v_ended_c5)) (Eq.refl (mA v_tape))) (fun rc6 v_at_c6 v_ended_c6 => ?_)
          refine tl_ite (jc_eq (Eq.refl (mI rc6)) jlitI_0) ?_ ?_
          · refine tl_bd2 (t_pM_fail jlitI_1 (Eq.refl (mI v_at_c6)) (Eq.refl (mI v_bad)) (Eq.refl (mI v_badPlace))) (fun v_bad_c7 v_badPlace_c7 => ?_)
            exact (t_pM_statement_b250 (Eq.refl N) (Eq.refl (mI v_end)) (Eq.refl (mA v_allWord)) (Eq.refl (mA v_allowWord)) (Eq.refl (mA v_andWord)) (Eq.refl (mA v_blanchedWord)) (Eq.refl (mA v_debtWord)) (Eq.refl (mA v_farmWord)) (Eq.refl (mA v_forWord)) (Eq.refl (mA v_inWord)) (Eq.refl (mA v_maxWord)) (Eq.refl (mA v_minWord)) (Eq.refl (mA v_notWord)) (Eq.refl (mA v_orWord)) (Eq.refl (mA v_paidWord)) (Eq.refl (mA v_pardonWord)) (Eq.refl (mA v_penceWord)) (Eq.refl (mA v_poundsWord)) (Eq.refl (mA v_shillingsWord)) (Eq.refl (mA v_shireWord)) (Eq.refl (mA v_splitWord)) (Eq.refl (mA v_tape)) (Eq.refl (mA v_termWord)) (Eq.refl (mA v_yearWord)) (ja_add jlitI_0 (jrd (Eq.refl (mA v_many)) (jx jlitI_0)) h1) (Eq.refl (mI v_at_c6)) (Eq.refl (mI v_bad_c7)) (Eq.refl (mI v_badPlace_c7)) jlitI_0 (Eq.refl (mI v_coded)) (Eq.refl (mI v_ended_c6)) jlitI_0 jlitI_0 (Eq.refl (mA v_codes)) (jupA (Eq.refl (mA v_first)) (jx (ja_add jlitI_0 (jrd (Eq.refl (mA v_many)) (jx jlitI_0)) h1)) jlitI_0) (jupA (Eq.refl (mA v_isBlanched)) (jx (ja_add jlitI_0 (jrd (Eq.refl (mA v_many)) (jx jlitI_0)) h1)) jlitI_0) (Eq.refl (mA v_many)) (jupA (Eq.refl (mA v_second)) (jx (ja_add jlitI_0 (jrd (Eq.refl (mA v_many)) (jx jlitI_0)) h1)) jlitI_0) (Eq.refl (mA v_sort)) (Eq.refl (mA v_sumEnd)) (jupA (Eq.refl (mA v_sumFrom)) (jx (ja_add jlitI_0 (jrd (Eq.refl (mA v_many)) (jx jlitI_0)) h1)) (Eq.refl (mI v_coded))) (Eq.refl (mA v_testEnd)) (Eq.refl (mA v_wait)))
          · refine tl_bd5 (t_pM_number (Eq.refl N) jlitI_2 jlitI_20 (Eq.refl (mI v_at_c6)) (Eq.refl (mI v_bad)) (Eq.refl (mI v_badPlace)) (Eq.refl (mI v_end)) (Eq.refl (mI v_ended_c6)) (Eq.refl (mA v_tape))) (fun rc8 v_at_c8 v_bad_c8 v_badPlace_c8 v_ended_c8 => ?_)
            exact (t_pM_statement_b250 (Eq.refl N) (Eq.refl (mI v_end)) (Eq.refl (mA v_allWord)) (Eq.refl (mA v_allowWord)) (Eq.refl (mA v_andWord)) (Eq.refl (mA v_blanchedWord)) (Eq.refl (mA v_debtWord)) (Eq.refl (mA v_farmWord)) (Eq.refl (mA v_forWord)) (Eq.refl (mA v_inWord)) (Eq.refl (mA v_maxWord)) (Eq.refl (mA v_minWord)) (Eq.refl (mA v_notWord)) (Eq.refl (mA v_orWord)) (Eq.refl (mA v_paidWord)) (Eq.refl (mA v_pardonWord)) (Eq.refl (mA v_penceWord)) (Eq.refl (mA v_poundsWord)) (Eq.refl (mA v_shillingsWord)) (Eq.refl (mA v_shireWord)) (Eq.refl (mA v_splitWord)) (Eq.refl (mA v_tape)) (Eq.refl (mA v_termWord)) (Eq.refl (mA v_yearWord)) (ja_add jlitI_0 (jrd (Eq.refl (mA v_many)) (jx jlitI_0)) h1) (Eq.refl (mI v_at_c8)) (Eq.refl (mI v_bad_c8)) (Eq.refl (mI v_badPlace_c8)) jlitI_0 (Eq.refl (mI v_coded)) (Eq.refl (mI v_ended_c8)) jlitI_0 jlitI_0 (Eq.refl (mA v_codes)) (jupA (jupA (Eq.refl (mA v_first)) (jx (ja_add jlitI_0 (jrd (Eq.refl (mA v_many)) (jx jlitI_0)) h1)) jlitI_0) (jx (ja_add jlitI_0 (jrd (Eq.refl (mA v_many)) (jx jlitI_0)) h1)) (Eq.refl (mI rc8))) (jupA (Eq.refl (mA v_isBlanched)) (jx (ja_add jlitI_0 (jrd (Eq.refl (mA v_many)) (jx jlitI_0)) h1)) jlitI_0) (Eq.refl (mA v_many)) (jupA (Eq.refl (mA v_second)) (jx (ja_add jlitI_0 (jrd (Eq.refl (mA v_many)) (jx jlitI_0)) h1)) jlitI_0) (jupA (Eq.refl (mA v_sort)) (jx (ja_add jlitI_0 (jrd (Eq.refl (mA v_many)) (jx jlitI_0)) h1)) jlitI_3) (Eq.refl (mA v_sumEnd)) (jupA (Eq.refl (mA v_sumFrom)) (jx (ja_add jlitI_0 (jrd (Eq.refl (mA v_many)) (jx jlitI_0)) h1)) (Eq.refl (mI v_coded))) (Eq.refl (mA v_testEnd)) (Eq.refl (mA v_wait)))
        · refine tl_bd5 (t_pM_number (Eq.refl N) jlitI_1 jlitI_999 (Eq.refl (mI v_at_c5)) (Eq.refl (mI v_bad)) (Eq.refl (mI v_badPlace)) (Eq.refl (mI v_end)) (Eq.refl (mI v_ended_c5)) (Eq.refl (mA v_tape))) (fun rc9 v_at_c9 v_bad_c9 v_badPlace_c9 v_ended_c9 => ?_)
          refine tl_bd4 (t_pM_asks (Eq.refl N) (Eq.refl _) (Eq.refl (mA v_inWord)) (Eq.refl (mI v_at_c9)) (Eq.refl (mI v_bad_c9)) (Eq.refl (mI v_badPlace_c9)) (Eq.refl (mI v_end)) (Eq.refl (mI v_ended_c9)) (Eq.refl (mA v_tape))) (fun v_at_c10 v_bad_c10 v_badPlace_c10 v_ended_c10 => ?_)
          refine tl_bd5 (t_pM_number (Eq.refl N) (jrd (jupA (jupA (Eq.refl (mA v_first)) (jx (ja_add jlitI_0 (jrd (Eq.refl (mA v_many)) (jx jlitI_0)) h1)) jlitI_0) (jx (ja_add jlitI_0 (jrd (Eq.refl (mA v_many)) (jx jlitI_0)) h1)) (Eq.refl (mI rc9))) (jx (ja_add jlitI_0 (jrd (Eq.refl (mA v_many)) (jx jlitI_0)) h1))) jlitI_999 (Eq.refl (mI v_at_c10)) (Eq.refl (mI v_bad_c10)) (Eq.refl (mI v_badPlace_c10)) (Eq.refl (mI v_end)) (Eq.refl (mI v_ended_c10)) (Eq.refl (mA v_tape))) (fun rc11 v_at_c11 v_bad_c11 v_badPlace_c11 v_ended_c11 => ?_)
          exact (t_pM_statement_b250 (Eq.refl N) (Eq.refl (mI v_end)) (Eq.refl (mA v_allWord)) (Eq.refl (mA v_allowWord)) (Eq.refl (mA v_andWord)) (Eq.refl (mA v_blanchedWord)) (Eq.refl (mA v_debtWord)) (Eq.refl (mA v_farmWord)) (Eq.refl (mA v_forWord)) (Eq.refl (mA v_inWord)) (Eq.refl (mA v_maxWord)) (Eq.refl (mA v_minWord)) (Eq.refl (mA v_notWord)) (Eq.refl (mA v_orWord)) (Eq.refl (mA v_paidWord)) (Eq.refl (mA v_pardonWord)) (Eq.refl (mA v_penceWord)) (Eq.refl (mA v_poundsWord)) (Eq.refl (mA v_shillingsWord)) (Eq.refl (mA v_shireWord)) (Eq.refl (mA v_splitWord)) (Eq.refl (mA v_tape)) (Eq.refl (mA v_termWord)) (Eq.refl (mA v_yearWord)) (ja_add jlitI_0 (jrd (Eq.refl (mA v_many)) (jx jlitI_0)) h1) (Eq.refl (mI v_at_c11)) (Eq.refl (mI v_bad_c11)) (Eq.refl (mI v_badPlace_c11)) jlitI_0 (Eq.refl (mI v_coded)) (Eq.refl (mI v_ended_c11)) jlitI_0 jlitI_0 (Eq.refl (mA v_codes)) (jupA (jupA (Eq.refl (mA v_first)) (jx (ja_add jlitI_0 (jrd (Eq.refl (mA v_many)) (jx jlitI_0)) h1)) jlitI_0) (jx (ja_add jlitI_0 (jrd (Eq.refl (mA v_many)) (jx jlitI_0)) h1)) (Eq.refl (mI rc9))) (jupA (Eq.refl (mA v_isBlanched)) (jx (ja_add jlitI_0 (jrd (Eq.refl (mA v_many)) (jx jlitI_0)) h1)) jlitI_0) (Eq.refl (mA v_many)) (jupA (jupA (Eq.refl (mA v_second)) (jx (ja_add jlitI_0 (jrd (Eq.refl (mA v_many)) (jx jlitI_0)) h1)) jlitI_0) (jx (ja_add jlitI_0 (jrd (Eq.refl (mA v_many)) (jx jlitI_0)) h1)) (Eq.refl (mI rc11))) (jupA (Eq.refl (mA v_sort)) (jx (ja_add jlitI_0 (jrd (Eq.refl (mA v_many)) (jx jlitI_0)) h1)) jlitI_2) (Eq.refl (mA v_sumEnd)) (jupA (Eq.refl (mA v_sumFrom)) (jx (ja_add jlitI_0 (jrd (Eq.refl (mA v_many)) (jx jlitI_0)) h1)) (Eq.refl (mI v_coded))) (Eq.refl (mA v_testEnd)) (Eq.refl (mA v_wait)))
      · refine tl_bd10 (t_pM_sums (Eq.refl N) (Eq.refl (mI v_at_c4)) (Eq.refl (mI v_bad)) (Eq.refl (mI v_badPlace)) jlitI_0 (Eq.refl (mI v_coded)) (Eq.refl (mI v_end)) (Eq.refl (mI v_ended_c4)) jlitI_0 jlitI_0 (Eq.refl (mA v_codes)) (Eq.refl (mA v_debtWord)) (Eq.refl (mA v_maxWord)) (Eq.refl (mA v_minWord)) (Eq.refl (mA v_paidWord)) (Eq.refl (mA v_penceWord)) (Eq.refl (mA v_poundsWord)) (Eq.refl (mA v_shillingsWord)) (Eq.refl (mA v_tape)) (Eq.refl (mA v_termWord)) (Eq.refl (mA v_wait)) (Eq.refl (mA v_yearWord))) (fun v_at_c12 v_bad_c12 v_badPlace_c12 v_base_c12 v_coded_c12 v_ended_c12 v_open_c12 v_waits_c12 v_codes_c12 v_wait_c12 => ?_)
        exact (t_pM_statement_b250 (Eq.refl N) (Eq.refl (mI v_end)) (Eq.refl (mA v_allWord)) (Eq.refl (mA v_allowWord)) (Eq.refl (mA v_andWord)) (Eq.refl (mA v_blanchedWord)) (Eq.refl (mA v_debtWord)) (Eq.refl (mA v_farmWord)) (Eq.refl (mA v_forWord)) (Eq.refl (mA v_inWord)) (Eq.refl (mA v_maxWord)) (Eq.refl (mA v_minWord)) (Eq.refl (mA v_notWord)) (Eq.refl (mA v_orWord)) (Eq.refl (mA v_paidWord)) (Eq.refl (mA v_pardonWord)) (Eq.refl (mA v_penceWord)) (Eq.refl (mA v_poundsWord)) (Eq.refl (mA v_shillingsWord)) (Eq.refl (mA v_shireWord)) (Eq.refl (mA v_splitWord)) (Eq.refl (mA v_tape)) (Eq.refl (mA v_termWord)) (Eq.refl (mA v_yearWord)) (ja_add jlitI_0 (jrd (Eq.refl (mA v_many)) (jx jlitI_0)) h1) (Eq.refl (mI v_at_c12)) (Eq.refl (mI v_bad_c12)) (Eq.refl (mI v_badPlace_c12)) (Eq.refl (mI v_base_c12)) (Eq.refl (mI v_coded_c12)) (Eq.refl (mI v_ended_c12)) (Eq.refl (mI v_open_c12)) (Eq.refl (mI v_waits_c12)) (Eq.refl (mA v_codes_c12)) (jupA (Eq.refl (mA v_first)) (jx (ja_add jlitI_0 (jrd (Eq.refl (mA v_many)) (jx jlitI_0)) h1)) jlitI_0) (jupA (Eq.refl (mA v_isBlanched)) (jx (ja_add jlitI_0 (jrd (Eq.refl (mA v_many)) (jx jlitI_0)) h1)) jlitI_0) (Eq.refl (mA v_many)) (jupA (Eq.refl (mA v_second)) (jx (ja_add jlitI_0 (jrd (Eq.refl (mA v_many)) (jx jlitI_0)) h1)) jlitI_0) (jupA (Eq.refl (mA v_sort)) (jx (ja_add jlitI_0 (jrd (Eq.refl (mA v_many)) (jx jlitI_0)) h1)) jlitI_1) (Eq.refl (mA v_sumEnd)) (jupA (Eq.refl (mA v_sumFrom)) (jx (ja_add jlitI_0 (jrd (Eq.refl (mA v_many)) (jx jlitI_0)) h1)) (Eq.refl (mI v_coded))) (Eq.refl (mA v_testEnd)) (Eq.refl (mA v_wait_c12)))
    · refine tl_bd10 (t_pM_sums (Eq.refl N) (Eq.refl (mI v_at_c3)) (Eq.refl (mI v_bad)) (Eq.refl (mI v_badPlace)) jlitI_0 (Eq.refl (mI v_coded)) (Eq.refl (mI v_end)) (Eq.refl (mI v_ended_c3)) jlitI_0 jlitI_0 (Eq.refl (mA v_codes)) (Eq.refl (mA v_debtWord)) (Eq.refl (mA v_maxWord)) (Eq.refl (mA v_minWord)) (Eq.refl (mA v_paidWord)) (Eq.refl (mA v_penceWord)) (Eq.refl (mA v_poundsWord)) (Eq.refl (mA v_shillingsWord)) (Eq.refl (mA v_tape)) (Eq.refl (mA v_termWord)) (Eq.refl (mA v_wait)) (Eq.refl (mA v_yearWord))) (fun v_at_c13 v_bad_c13 v_badPlace_c13 v_base_c13 v_coded_c13 v_ended_c13 v_open_c13 v_waits_c13 v_codes_c13 v_wait_c13 => ?_)
      refine tl_bd3 (t_pM_takes (Eq.refl N) (Eq.refl _) (Eq.refl (mA v_blanchedWord)) (Eq.refl (mI v_at_c13)) (Eq.refl (mI v_bad_c13)) (Eq.refl (mI v_end)) (Eq.refl (mI v_ended_c13)) (Eq.refl (mA v_tape))) (fun rc14 v_at_c14 v_ended_c14 => ?_)
      exact (t_pM_statement_b250 (Eq.refl N) (Eq.refl (mI v_end)) (Eq.refl (mA v_allWord)) (Eq.refl (mA v_allowWord)) (Eq.refl (mA v_andWord)) (Eq.refl (mA v_blanchedWord)) (Eq.refl (mA v_debtWord)) (Eq.refl (mA v_farmWord)) (Eq.refl (mA v_forWord)) (Eq.refl (mA v_inWord)) (Eq.refl (mA v_maxWord)) (Eq.refl (mA v_minWord)) (Eq.refl (mA v_notWord)) (Eq.refl (mA v_orWord)) (Eq.refl (mA v_paidWord)) (Eq.refl (mA v_pardonWord)) (Eq.refl (mA v_penceWord)) (Eq.refl (mA v_poundsWord)) (Eq.refl (mA v_shillingsWord)) (Eq.refl (mA v_shireWord)) (Eq.refl (mA v_splitWord)) (Eq.refl (mA v_tape)) (Eq.refl (mA v_termWord)) (Eq.refl (mA v_yearWord)) (ja_add jlitI_0 (jrd (Eq.refl (mA v_many)) (jx jlitI_0)) h1) (Eq.refl (mI v_at_c14)) (Eq.refl (mI v_bad_c13)) (Eq.refl (mI v_badPlace_c13)) (Eq.refl (mI v_base_c13)) (Eq.refl (mI v_coded_c13)) (Eq.refl (mI v_ended_c14)) (Eq.refl (mI v_open_c13)) (Eq.refl (mI v_waits_c13)) (Eq.refl (mA v_codes_c13)) (jupA (Eq.refl (mA v_first)) (jx (ja_add jlitI_0 (jrd (Eq.refl (mA v_many)) (jx jlitI_0)) h1)) jlitI_0) (jupA (jupA (Eq.refl (mA v_isBlanched)) (jx (ja_add jlitI_0 (jrd (Eq.refl (mA v_many)) (jx jlitI_0)) h1)) jlitI_0) (jx (ja_add jlitI_0 (jrd (Eq.refl (mA v_many)) (jx jlitI_0)) h1)) (ja_nZ (Eq.refl (mI rc14)))) (Eq.refl (mA v_many)) (jupA (Eq.refl (mA v_second)) (jx (ja_add jlitI_0 (jrd (Eq.refl (mA v_many)) (jx jlitI_0)) h1)) jlitI_0) (jupA (Eq.refl (mA v_sort)) (jx (ja_add jlitI_0 (jrd (Eq.refl (mA v_many)) (jx jlitI_0)) h1)) jlitI_0) (Eq.refl (mA v_sumEnd)) (jupA (Eq.refl (mA v_sumFrom)) (jx (ja_add jlitI_0 (jrd (Eq.refl (mA v_many)) (jx jlitI_0)) h1)) (Eq.refl (mI v_coded))) (Eq.refl (mA v_testEnd)) (Eq.refl (mA v_wait_c13)))
theorem t_pM_reads_b45_F {N N_j : Nat} (t_N : N = N_j) {v_allWord : (Nat → Int32)} {v_allWord_j : (Nat → Int)} (t_v_allWord : mA v_allWord = v_allWord_j) {v_allowWord : (Nat → Int32)} {v_allowWord_j : (Nat → Int)} (t_v_allowWord : mA v_allowWord = v_allowWord_j) {v_andWord : (Nat → Int32)} {v_andWord_j : (Nat → Int)} (t_v_andWord : mA v_andWord = v_andWord_j) {v_blanchedWord : (Nat → Int32)} {v_blanchedWord_j : (Nat → Int)} (t_v_blanchedWord : mA v_blanchedWord = v_blanchedWord_j) {v_debtWord : (Nat → Int32)} {v_debtWord_j : (Nat → Int)} (t_v_debtWord : mA v_debtWord = v_debtWord_j) {v_farmWord : (Nat → Int32)} {v_farmWord_j : (Nat → Int)} (t_v_farmWord : mA v_farmWord = v_farmWord_j) {v_forWord : (Nat → Int32)} {v_forWord_j : (Nat → Int)} (t_v_forWord : mA v_forWord = v_forWord_j) {v_inWord : (Nat → Int32)} {v_inWord_j : (Nat → Int)} (t_v_inWord : mA v_inWord = v_inWord_j) {v_maxWord : (Nat → Int32)} {v_maxWord_j : (Nat → Int)} (t_v_maxWord : mA v_maxWord = v_maxWord_j) {v_minWord : (Nat → Int32)} {v_minWord_j : (Nat → Int)} (t_v_minWord : mA v_minWord = v_minWord_j) {v_notWord : (Nat → Int32)} {v_notWord_j : (Nat → Int)} (t_v_notWord : mA v_notWord = v_notWord_j) {v_orWord : (Nat → Int32)} {v_orWord_j : (Nat → Int)} (t_v_orWord : mA v_orWord = v_orWord_j) {v_paidWord : (Nat → Int32)} {v_paidWord_j : (Nat → Int)} (t_v_paidWord : mA v_paidWord = v_paidWord_j) {v_pardonWord : (Nat → Int32)} {v_pardonWord_j : (Nat → Int)} (t_v_pardonWord : mA v_pardonWord = v_pardonWord_j) {v_penceWord : (Nat → Int32)} {v_penceWord_j : (Nat → Int)} (t_v_penceWord : mA v_penceWord = v_penceWord_j) {v_poundsWord : (Nat → Int32)} {v_poundsWord_j : (Nat → Int)} (t_v_poundsWord : mA v_poundsWord = v_poundsWord_j) {v_shillingsWord : (Nat → Int32)} {v_shillingsWord_j : (Nat → Int)} (t_v_shillingsWord : mA v_shillingsWord = v_shillingsWord_j) {v_shireWord : (Nat → Int32)} {v_shireWord_j : (Nat → Int)} (t_v_shireWord : mA v_shireWord = v_shireWord_j) {v_splitWord : (Nat → Int32)} {v_splitWord_j : (Nat → Int)} (t_v_splitWord : mA v_splitWord = v_splitWord_j) {v_tape : (Nat → Int32)} {v_tape_j : (Nat → Int)} (t_v_tape : mA v_tape = v_tape_j) {v_termWord : (Nat → Int32)} {v_termWord_j : (Nat → Int)} (t_v_termWord : mA v_termWord = v_termWord_j) {v_yearWord : (Nat → Int32)} {v_yearWord_j : (Nat → Int)} (t_v_yearWord : mA v_yearWord = v_yearWord_j) {v_end : Int32} {v_end_j : Int} (t_v_end : mI v_end = v_end_j) {v_fault : Int32} {v_fault_j : Int} (t_v_fault : mI v_fault = v_fault_j) {v_faultPlace : Int32} {v_faultPlace_j : Int} (t_v_faultPlace : mI v_faultPlace = v_faultPlace_j) {v_taped : Int32} {v_taped_j : Int} (t_v_taped : mI v_taped = v_taped_j) {k67 : Int32 → Int32 → Int32 → Int32 → Int32 → Int32 → Int32 → Int32 → (Nat → Int32) → (Nat → Int32) → (Nat → Int32) → (Nat → Int32) → (Nat → Int32) → (Nat → Int32) → (Nat → Int32) → (Nat → Int32) → (Nat → Int32) → (Nat → Int32) → Option R_pM_reads} {k67_j : Int → Int → Int → Int → Int → Int → Int → Int → (Nat → Int) → (Nat → Int) → (Nat → Int) → (Nat → Int) → (Nat → Int) → (Nat → Int) → (Nat → Int) → (Nat → Int) → (Nat → Int) → (Nat → Int) → Option R_iM_reads} (t_k67 : ∀ (q0_ : Int32) (q1_ : Int32) (q2_ : Int32) (q3_ : Int32) (q4_ : Int32) (q5_ : Int32) (q6_ : Int32) (q7_ : Int32) (q8_ : (Nat → Int32)) (q9_ : (Nat → Int32)) (q10_ : (Nat → Int32)) (q11_ : (Nat → Int32)) (q12_ : (Nat → Int32)) (q13_ : (Nat → Int32)) (q14_ : (Nat → Int32)) (q15_ : (Nat → Int32)) (q16_ : (Nat → Int32)) (q17_ : (Nat → Int32)), tl (mP mI (mP mI (mP mI (mP mI (mP mI (mP mI (mP mI (mP mI (mP mI (mP mI (mP mI (mP mI (mP mI (mP mA (mP mA (mP mA (mP mA (mP mA (mP mA (mP mA (mP mA (mP mA mA)))))))))))))))))))))) (k67_j (mI q0_) (mI q1_) (mI q2_) (mI q3_) (mI q4_) (mI q5_) (mI q6_) (mI q7_) (mA q8_) (mA q9_) (mA q10_) (mA q11_) (mA q12_) (mA q13_) (mA q14_) (mA q15_) (mA q16_) (mA q17_)) (k67 q0_ q1_ q2_ q3_ q4_ q5_ q6_ q7_ q8_ q9_ q10_ q11_ q12_ q13_ q14_ q15_ q16_ q17_)) {self : Int32 → Int32 → Int32 → Int32 → Int32 → Int32 → Int32 → Int32 → (Nat → Int32) → (Nat → Int32) → (Nat → Int32) → (Nat → Int32) → (Nat → Int32) → (Nat → Int32) → (Nat → Int32) → (Nat → Int32) → (Nat → Int32) → (Nat → Int32) → Option R_pM_reads} {self_j : Int → Int → Int → Int → Int → Int → Int → Int → (Nat → Int) → (Nat → Int) → (Nat → Int) → (Nat → Int) → (Nat → Int) → (Nat → Int) → (Nat → Int) → (Nat → Int) → (Nat → Int) → (Nat → Int) → Option R_iM_reads} (t_self : ∀ (q0_ : Int32) (q1_ : Int32) (q2_ : Int32) (q3_ : Int32) (q4_ : Int32) (q5_ : Int32) (q6_ : Int32) (q7_ : Int32) (q8_ : (Nat → Int32)) (q9_ : (Nat → Int32)) (q10_ : (Nat → Int32)) (q11_ : (Nat → Int32)) (q12_ : (Nat → Int32)) (q13_ : (Nat → Int32)) (q14_ : (Nat → Int32)) (q15_ : (Nat → Int32)) (q16_ : (Nat → Int32)) (q17_ : (Nat → Int32)), tl (mP mI (mP mI (mP mI (mP mI (mP mI (mP mI (mP mI (mP mI (mP mI (mP mI (mP mI (mP mI (mP mI (mP mA (mP mA (mP mA (mP mA (mP mA (mP mA (mP mA (mP mA (mP mA mA)))))))))))))))))))))) (self_j (mI q0_) (mI q1_) (mI q2_) (mI q3_) (mI q4_) (mI q5_) (mI q6_) (mI q7_) (mA q8_) (mA q9_) (mA q10_) (mA q11_) (mA q12_) (mA q13_) (mA q14_) (mA q15_) (mA q16_) (mA q17_)) (self q0_ q1_ q2_ q3_ q4_ q5_ q6_ q7_ q8_ q9_ q10_ q11_ q12_ q13_ q14_ q15_ q16_ q17_)) {v_at : Int32} {v_at_j : Int} (t_v_at : mI v_at = v_at_j) {v_bad : Int32} {v_bad_j : Int} (t_v_bad : mI v_bad = v_bad_j) {v_badPlace : Int32} {v_badPlace_j : Int} (t_v_badPlace : mI v_badPlace = v_badPlace_j) {v_base : Int32} {v_base_j : Int} (t_v_base : mI v_base = v_base_j) {v_coded : Int32} {v_coded_j : Int} (t_v_coded : mI v_coded = v_coded_j) {v_ended : Int32} {v_ended_j : Int} (t_v_ended : mI v_ended = v_ended_j) {v_open : Int32} {v_open_j : Int} (t_v_open : mI v_open = v_open_j) {v_waits : Int32} {v_waits_j : Int} (t_v_waits : mI v_waits = v_waits_j) {v_codes : (Nat → Int32)} {v_codes_j : (Nat → Int)} (t_v_codes : mA v_codes = v_codes_j) {v_first : (Nat → Int32)} {v_first_j : (Nat → Int)} (t_v_first : mA v_first = v_first_j) {v_isBlanched : (Nat → Int32)} {v_isBlanched_j : (Nat → Int)} (t_v_isBlanched : mA v_isBlanched = v_isBlanched_j) {v_many : (Nat → Int32)} {v_many_j : (Nat → Int)} (t_v_many : mA v_many = v_many_j) {v_second : (Nat → Int32)} {v_second_j : (Nat → Int)} (t_v_second : mA v_second = v_second_j) {v_sort : (Nat → Int32)} {v_sort_j : (Nat → Int)} (t_v_sort : mA v_sort = v_sort_j) {v_sumEnd : (Nat → Int32)} {v_sumEnd_j : (Nat → Int)} (t_v_sumEnd : mA v_sumEnd = v_sumEnd_j) {v_sumFrom : (Nat → Int32)} {v_sumFrom_j : (Nat → Int)} (t_v_sumFrom : mA v_sumFrom = v_sumFrom_j) {v_testEnd : (Nat → Int32)} {v_testEnd_j : (Nat → Int)} (t_v_testEnd : mA v_testEnd = v_testEnd_j) {v_wait : (Nat → Int32)} {v_wait_j : (Nat → Int)} (t_v_wait : mA v_wait = v_wait_j) : tl (mP mI (mP mI (mP mI (mP mI (mP mI (mP mI (mP mI (mP mI (mP mI (mP mI (mP mI (mP mI (mP mI (mP mA (mP mA (mP mA (mP mA (mP mA (mP mA (mP mA (mP mA (mP mA mA)))))))))))))))))))))) (iM_reads_b45_F N_j v_allWord_j v_allowWord_j v_andWord_j v_blanchedWord_j v_debtWord_j v_farmWord_j v_forWord_j v_inWord_j v_maxWord_j v_minWord_j v_notWord_j v_orWord_j v_paidWord_j v_pardonWord_j v_penceWord_j v_poundsWord_j v_shillingsWord_j v_shireWord_j v_splitWord_j v_tape_j v_termWord_j v_yearWord_j v_end_j v_fault_j v_faultPlace_j v_taped_j k67_j self_j v_at_j v_bad_j v_badPlace_j v_base_j v_coded_j v_ended_j v_open_j v_waits_j v_codes_j v_first_j v_isBlanched_j v_many_j v_second_j v_sort_j v_sumEnd_j v_sumFrom_j v_testEnd_j v_wait_j) (pM_reads_b45_F N v_allWord v_allowWord v_andWord v_blanchedWord v_debtWord v_farmWord v_forWord v_inWord v_maxWord v_minWord v_notWord v_orWord v_paidWord v_pardonWord v_penceWord v_poundsWord v_shillingsWord v_shireWord v_splitWord v_tape v_termWord v_yearWord v_end v_fault v_faultPlace v_taped k67 self v_at v_bad v_badPlace v_base v_coded v_ended v_open v_waits v_codes v_first v_isBlanched v_many v_second v_sort v_sumEnd v_sumFrom v_testEnd v_wait) := by
  subst t_N
  subst t_v_allWord
  subst t_v_allowWord
  subst t_v_andWord
  subst t_v_blanchedWord
  subst t_v_debtWord
  subst t_v_farmWord
  subst t_v_forWord
  subst t_v_inWord
  subst t_v_maxWord
  subst t_v_minWord
  subst t_v_notWord
  subst t_v_orWord
  subst t_v_paidWord
  subst t_v_pardonWord
  subst t_v_penceWord
  subst t_v_poundsWord
  subst t_v_shillingsWord
  subst t_v_shireWord
  subst t_v_splitWord
  subst t_v_tape
  subst t_v_termWord
  subst t_v_yearWord
  subst t_v_end
  subst t_v_fault
  subst t_v_faultPlace
  subst t_v_taped
  subst t_v_at
  subst t_v_bad
  subst t_v_badPlace
  subst t_v_base
  subst t_v_coded
  subst t_v_ended
  subst t_v_open
  subst t_v_waits
  subst t_v_codes
  subst t_v_first
  subst t_v_isBlanched
  subst t_v_many
  subst t_v_second
  subst t_v_sort
  subst t_v_sumEnd
  subst t_v_sumFrom
  subst t_v_testEnd
  subst t_v_wait
  unfold iM_reads_b45_F pM_reads_b45_F
  refine tl_ite (jc_eq (Eq.refl (mI v_bad)) jlitI_0) ?_ ?_
  · refine tl_bd2 (t_pM_look (Eq.refl N) (Eq.refl (mI v_at)) (Eq.refl (mI v_end)) (Eq.refl (mA v_tape))) (fun rc1 v_at_c1 => ?_)
    refine tl_ite (jc_eq (Eq.refl (mI rc1)) jlitI_m1) ?_ ?_
    · exact (tl_e18 (Eq.refl (mI v_at_c1)) (Eq.refl (mI v_bad)) (Eq.refl (mI v_badPlace)) (Eq.refl (mI v_base)) (Eq.refl (mI v_coded)) (Eq.refl (mI v_ended)) (Eq.refl (mI v_open)) (Eq.refl (mI v_waits)) (Eq.refl (mA v_codes)) (Eq.refl (mA v_first)) (Eq.refl (mA v_isBlanched)) (Eq.refl (mA v_many)) (Eq.refl (mA v_second)) (Eq.refl (mA v_sort)) (Eq.refl (mA v_sumEnd)) (Eq.refl (mA v_sumFrom)) (Eq.refl (mA v_testEnd)) (Eq.refl (mA v_wait)) (t_k67 _ _ _ _ _ _ _ _ _ _ _ _ _ _ _ _ _ _))
    · refine tl_bd18 (t_pM_statement (Eq.refl N) (Eq.refl (mI v_at_c1)) (Eq.refl (mI v_bad)) (Eq.refl (mI v_badPlace)) (Eq.refl (mI v_base)) (Eq.refl (mI v_coded)) (Eq.refl (mI v_end)) (Eq.refl (mI v_ended)) (Eq.refl (mI v_open)) (Eq.refl (mI v_waits)) (Eq.refl (mA v_allWord)) (Eq.refl (mA v_allowWord)) (Eq.refl (mA v_andWord)) (Eq.refl (mA v_blanchedWord)) (Eq.refl (mA v_codes)) (Eq.refl (mA v_debtWord)) (Eq.refl (mA v_farmWord)) (Eq.refl (mA v_first)) (Eq.refl (mA v_forWord)) (Eq.refl (mA v_inWord)) (Eq.refl (mA v_isBlanched)) (Eq.refl (mA v_many)) (Eq.refl (mA v_maxWord)) (Eq.refl (mA v_minWord)) (Eq.refl (mA v_notWord)) (Eq.refl (mA v_orWord)) (Eq.refl (mA v_paidWord)) (Eq.refl (mA v_pardonWord)) (Eq.refl (mA v_penceWord)) (Eq.refl (mA v_poundsWord)) (Eq.refl (mA v_second)) (Eq.refl (mA v_shillingsWord)) (Eq.refl (mA v_shireWord)) (Eq.refl (mA v_sort)) (Eq.refl (mA v_splitWord)) (Eq.refl (mA v_sumEnd)) (Eq.refl (mA v_sumFrom)) (Eq.refl (mA v_tape)) (Eq.refl (mA v_termWord)) (Eq.refl (mA v_testEnd)) (Eq.refl (mA v_wait)) (Eq.refl (mA v_yearWord))) (fun v_at_c2 v_bad_c2 v_badPlace_c2 v_base_c2 v_coded_c2 v_ended_c2 v_open_c2 v_waits_c2 v_codes_c2 v_first_c2 v_isBlanched_c2 v_many_c2 v_second_c2 v_sort_c2 v_sumEnd_c2 v_sumFrom_c2 v_testEnd_c2 v_wait_c2 => ?_)
      exact (tl_e18 (Eq.refl (mI v_at_c2)) (Eq.refl (mI v_bad_c2)) (Eq.refl (mI v_badPlace_c2)) (Eq.refl (mI v_base_c2)) (Eq.refl (mI v_coded_c2)) (Eq.refl (mI v_ended_c2)) (Eq.refl (mI v_open_c2)) (Eq.refl (mI v_waits_c2)) (Eq.refl (mA v_codes_c2)) (Eq.refl (mA v_first_c2)) (Eq.refl (mA v_isBlanched_c2)) (Eq.refl (mA v_many_c2)) (Eq.refl (mA v_second_c2)) (Eq.refl (mA v_sort_c2)) (Eq.refl (mA v_sumEnd_c2)) (Eq.refl (mA v_sumFrom_c2)) (Eq.refl (mA v_testEnd_c2)) (Eq.refl (mA v_wait_c2)) (t_self _ _ _ _ _ _ _ _ _ _ _ _ _ _ _ _ _ _))
  · exact (tl_e18 (Eq.refl (mI v_at)) (Eq.refl (mI v_bad)) (Eq.refl (mI v_badPlace)) (Eq.refl (mI v_base)) (Eq.refl (mI v_coded)) (Eq.refl (mI v_ended)) (Eq.refl (mI v_open)) (Eq.refl (mI v_waits)) (Eq.refl (mA v_codes)) (Eq.refl (mA v_first)) (Eq.refl (mA v_isBlanched)) (Eq.refl (mA v_many)) (Eq.refl (mA v_second)) (Eq.refl (mA v_sort)) (Eq.refl (mA v_sumEnd)) (Eq.refl (mA v_sumFrom)) (Eq.refl (mA v_testEnd)) (Eq.refl (mA v_wait)) (t_k67 _ _ _ _ _ _ _ _ _ _ _ _ _ _ _ _ _ _))
theorem t_pM_reads_b45 {N N_j : Nat} (t_N : N = N_j) {v_allWord : (Nat → Int32)} {v_allWord_j : (Nat → Int)} (t_v_allWord : mA v_allWord = v_allWord_j) {v_allowWord : (Nat → Int32)} {v_allowWord_j : (Nat → Int)} (t_v_allowWord : mA v_allowWord = v_allowWord_j) {v_andWord : (Nat → Int32)} {v_andWord_j : (Nat → Int)} (t_v_andWord : mA v_andWord = v_andWord_j) {v_blanchedWord : (Nat → Int32)} {v_blanchedWord_j : (Nat → Int)} (t_v_blanchedWord : mA v_blanchedWord = v_blanchedWord_j) {v_debtWord : (Nat → Int32)} {v_debtWord_j : (Nat → Int)} (t_v_debtWord : mA v_debtWord = v_debtWord_j) {v_farmWord : (Nat → Int32)} {v_farmWord_j : (Nat → Int)} (t_v_farmWord : mA v_farmWord = v_farmWord_j) {v_forWord : (Nat → Int32)} {v_forWord_j : (Nat → Int)} (t_v_forWord : mA v_forWord = v_forWord_j) {v_inWord : (Nat → Int32)} {v_inWord_j : (Nat → Int)} (t_v_inWord : mA v_inWord = v_inWord_j) {v_maxWord : (Nat → Int32)} {v_maxWord_j : (Nat → Int)} (t_v_maxWord : mA v_maxWord = v_maxWord_j) {v_minWord : (Nat → Int32)} {v_minWord_j : (Nat → Int)} (t_v_minWord : mA v_minWord = v_minWord_j) {v_notWord : (Nat → Int32)} {v_notWord_j : (Nat → Int)} (t_v_notWord : mA v_notWord = v_notWord_j) {v_orWord : (Nat → Int32)} {v_orWord_j : (Nat → Int)} (t_v_orWord : mA v_orWord = v_orWord_j) {v_paidWord : (Nat → Int32)} {v_paidWord_j : (Nat → Int)} (t_v_paidWord : mA v_paidWord = v_paidWord_j) {v_pardonWord : (Nat → Int32)} {v_pardonWord_j : (Nat → Int)} (t_v_pardonWord : mA v_pardonWord = v_pardonWord_j) {v_penceWord : (Nat → Int32)} {v_penceWord_j : (Nat → Int)} (t_v_penceWord : mA v_penceWord = v_penceWord_j) {v_poundsWord : (Nat → Int32)} {v_poundsWord_j : (Nat → Int)} (t_v_poundsWord : mA v_poundsWord = v_poundsWord_j) {v_shillingsWord : (Nat → Int32)} {v_shillingsWord_j : (Nat → Int)} (t_v_shillingsWord : mA v_shillingsWord = v_shillingsWord_j) {v_shireWord : (Nat → Int32)} {v_shireWord_j : (Nat → Int)} (t_v_shireWord : mA v_shireWord = v_shireWord_j) {v_splitWord : (Nat → Int32)} {v_splitWord_j : (Nat → Int)} (t_v_splitWord : mA v_splitWord = v_splitWord_j) {v_tape : (Nat → Int32)} {v_tape_j : (Nat → Int)} (t_v_tape : mA v_tape = v_tape_j) {v_termWord : (Nat → Int32)} {v_termWord_j : (Nat → Int)} (t_v_termWord : mA v_termWord = v_termWord_j) {v_yearWord : (Nat → Int32)} {v_yearWord_j : (Nat → Int)} (t_v_yearWord : mA v_yearWord = v_yearWord_j) {v_end : Int32} {v_end_j : Int} (t_v_end : mI v_end = v_end_j) {v_fault : Int32} {v_fault_j : Int} (t_v_fault : mI v_fault = v_fault_j) {v_faultPlace : Int32} {v_faultPlace_j : Int} (t_v_faultPlace : mI v_faultPlace = v_faultPlace_j) {v_taped : Int32} {v_taped_j : Int} (t_v_taped : mI v_taped = v_taped_j) {k67 : Int32 → Int32 → Int32 → Int32 → Int32 → Int32 → Int32 → Int32 → (Nat → Int32) → (Nat → Int32) → (Nat → Int32) → (Nat → Int32) → (Nat → Int32) → (Nat → Int32) → (Nat → Int32) → (Nat → Int32) → (Nat → Int32) → (Nat → Int32) → Option R_pM_reads} {k67_j : Int → Int → Int → Int → Int → Int → Int → Int → (Nat → Int) → (Nat → Int) → (Nat → Int) → (Nat → Int) → (Nat → Int) → (Nat → Int) → (Nat → Int) → (Nat → Int) → (Nat → Int) → (Nat → Int) → Option R_iM_reads} (t_k67 : ∀ (q0_ : Int32) (q1_ : Int32) (q2_ : Int32) (q3_ : Int32) (q4_ : Int32) (q5_ : Int32) (q6_ : Int32) (q7_ : Int32) (q8_ : (Nat → Int32)) (q9_ : (Nat → Int32)) (q10_ : (Nat → Int32)) (q11_ : (Nat → Int32)) (q12_ : (Nat → Int32)) (q13_ : (Nat → Int32)) (q14_ : (Nat → Int32)) (q15_ : (Nat → Int32)) (q16_ : (Nat → Int32)) (q17_ : (Nat → Int32)), tl (mP mI (mP mI (mP mI (mP mI (mP mI (mP mI (mP mI (mP mI (mP mI (mP mI (mP mI (mP mI (mP mI (mP mA (mP mA (mP mA (mP mA (mP mA (mP mA (mP mA (mP mA (mP mA mA)))))))))))))))))))))) (k67_j (mI q0_) (mI q1_) (mI q2_) (mI q3_) (mI q4_) (mI q5_) (mI q6_) (mI q7_) (mA q8_) (mA q9_) (mA q10_) (mA q11_) (mA q12_) (mA q13_) (mA q14_) (mA q15_) (mA q16_) (mA q17_)) (k67 q0_ q1_ q2_ q3_ q4_ q5_ q6_ q7_ q8_ q9_ q10_ q11_ q12_ q13_ q14_ q15_ q16_ q17_)) {n n_j : Nat} (t_n : n = n_j) {w0_ : Int32} {w0__j : Int} (t_w0_ : mI w0_ = w0__j) {w1_ : Int32} {w1__j : Int} (t_w1_ : mI w1_ = w1__j) {w2_ : Int32} {w2__j : Int} (t_w2_ : mI w2_ = w2__j) {w3_ : Int32} {w3__j : Int} (t_w3_ : mI w3_ = w3__j) {w4_ : Int32} {w4__j : Int} (t_w4_ : mI w4_ = w4__j) {w5_ : Int32} {w5__j : Int} (t_w5_ : mI w5_ = w5__j) {w6_ : Int32} {w6__j : Int} (t_w6_ : mI w6_ = w6__j) {w7_ : Int32} {w7__j : Int} (t_w7_ : mI w7_ = w7__j) {w8_ : (Nat → Int32)} {w8__j : (Nat → Int)} (t_w8_ : mA w8_ = w8__j) {w9_ : (Nat → Int32)} {w9__j : (Nat → Int)} (t_w9_ : mA w9_ = w9__j) {w10_ : (Nat → Int32)} {w10__j : (Nat → Int)} (t_w10_ : mA w10_ = w10__j) {w11_ : (Nat → Int32)} {w11__j : (Nat → Int)} (t_w11_ : mA w11_ = w11__j) {w12_ : (Nat → Int32)} {w12__j : (Nat → Int)} (t_w12_ : mA w12_ = w12__j) {w13_ : (Nat → Int32)} {w13__j : (Nat → Int)} (t_w13_ : mA w13_ = w13__j) {w14_ : (Nat → Int32)} {w14__j : (Nat → Int)} (t_w14_ : mA w14_ = w14__j) {w15_ : (Nat → Int32)} {w15__j : (Nat → Int)} (t_w15_ : mA w15_ = w15__j) {w16_ : (Nat → Int32)} {w16__j : (Nat → Int)} (t_w16_ : mA w16_ = w16__j) {w17_ : (Nat → Int32)} {w17__j : (Nat → Int)} (t_w17_ : mA w17_ = w17__j) : tl (mP mI (mP mI (mP mI (mP mI (mP mI (mP mI (mP mI (mP mI (mP mI (mP mI (mP mI (mP mI (mP mI (mP mA (mP mA (mP mA (mP mA (mP mA (mP mA (mP mA (mP mA (mP mA mA)))))))))))))))))))))) (iM_reads_b45 N_j v_allWord_j v_allowWord_j v_andWord_j v_blanchedWord_j v_debtWord_j v_farmWord_j v_forWord_j v_inWord_j v_maxWord_j v_minWord_j v_notWord_j v_orWord_j v_paidWord_j v_pardonWord_j v_penceWord_j v_poundsWord_j v_shillingsWord_j v_shireWord_j v_splitWord_j v_tape_j v_termWord_j v_yearWord_j v_end_j v_fault_j v_faultPlace_j v_taped_j k67_j n_j w0__j w1__j w2__j w3__j w4__j w5__j w6__j w7__j w8__j w9__j w10__j w11__j w12__j w13__j w14__j w15__j w16__j w17__j) (pM_reads_b45 N v_allWord v_allowWord v_andWord v_blanchedWord v_debtWord v_farmWord v_forWord v_inWord v_maxWord v_minWord v_notWord v_orWord v_paidWord v_pardonWord v_penceWord v_poundsWord v_shillingsWord v_shireWord v_splitWord v_tape v_termWord v_yearWord v_end v_fault v_faultPlace v_taped k67 n w0_ w1_ w2_ w3_ w4_ w5_ w6_ w7_ w8_ w9_ w10_ w11_ w12_ w13_ w14_ w15_ w16_ w17_) := by
  subst t_N
  subst t_v_allWord
  subst t_v_allowWord
  subst t_v_andWord
  subst t_v_blanchedWord
  subst t_v_debtWord
  subst t_v_farmWord
  subst t_v_forWord
  subst t_v_inWord
  subst t_v_maxWord
  subst t_v_minWord
  subst t_v_notWord
  subst t_v_orWord
  subst t_v_paidWord
  subst t_v_pardonWord
  subst t_v_penceWord
  subst t_v_poundsWord
  subst t_v_shillingsWord
  subst t_v_shireWord
  subst t_v_splitWord
  subst t_v_tape
  subst t_v_termWord
  subst t_v_yearWord
  subst t_v_end
  subst t_v_fault
  subst t_v_faultPlace
  subst t_v_taped
  subst t_n
  subst t_w0_
  subst t_w1_
  subst t_w2_
  subst t_w3_
  subst t_w4_
  subst t_w5_
  subst t_w6_
  subst t_w7_
  subst t_w8_
  subst t_w9_
  subst t_w10_
  subst t_w11_
  subst t_w12_
  subst t_w13_
  subst t_w14_
  subst t_w15_
  subst t_w16_
  subst t_w17_
  exact tl_zlp18 (fun s2 s hs w0_ w1_ w2_ w3_ w4_ w5_ w6_ w7_ w8_ w9_ w10_ w11_ w12_ w13_ w14_ w15_ w16_ w17_ => t_pM_reads_b45_F (Eq.refl N) (Eq.refl (mA v_allWord)) (Eq.refl (mA v_allowWord)) (Eq.refl (mA v_andWord)) (Eq.refl (mA v_blanchedWord)) (Eq.refl (mA v_debtWord)) (Eq.refl (mA v_farmWord)) (Eq.refl (mA v_forWord)) (Eq.refl (mA v_inWord)) (Eq.refl (mA v_maxWord)) (Eq.refl (mA v_minWord)) (Eq.refl (mA v_notWord)) (Eq.refl (mA v_orWord)) (Eq.refl (mA v_paidWord)) (Eq.refl (mA v_pardonWord)) (Eq.refl (mA v_penceWord)) (Eq.refl (mA v_poundsWord)) (Eq.refl (mA v_shillingsWord)) (Eq.refl (mA v_shireWord)) (Eq.refl (mA v_splitWord)) (Eq.refl (mA v_tape)) (Eq.refl (mA v_termWord)) (Eq.refl (mA v_yearWord)) (Eq.refl (mI v_end)) (Eq.refl (mI v_fault)) (Eq.refl (mI v_faultPlace)) (Eq.refl (mI v_taped)) t_k67 hs (Eq.refl (mI w0_)) (Eq.refl (mI w1_)) (Eq.refl (mI w2_)) (Eq.refl (mI w3_)) (Eq.refl (mI w4_)) (Eq.refl (mI w5_)) (Eq.refl (mI w6_)) (Eq.refl (mI w7_)) (Eq.refl (mA w8_)) (Eq.refl (mA w9_)) (Eq.refl (mA w10_)) (Eq.refl (mA w11_)) (Eq.refl (mA w12_)) (Eq.refl (mA w13_)) (Eq.refl (mA w14_)) (Eq.refl (mA w15_)) (Eq.refl (mA w16_)) (Eq.refl (mA w17_))) n w0_ w1_ w2_ w3_ w4_ w5_ w6_ w7_ w8_ w9_ w10_ w11_ w12_ w13_ w14_ w15_ w16_ w17_
theorem t_pM_reads_b67 {N N_j : Nat} (t_N : N = N_j) {v_allWord : (Nat → Int32)} {v_allWord_j : (Nat → Int)} (t_v_allWord : mA v_allWord = v_allWord_j) {v_allowWord : (Nat → Int32)} {v_allowWord_j : (Nat → Int)} (t_v_allowWord : mA v_allowWord = v_allowWord_j) {v_andWord : (Nat → Int32)} {v_andWord_j : (Nat → Int)} (t_v_andWord : mA v_andWord = v_andWord_j) {v_blanchedWord : (Nat → Int32)} {v_blanchedWord_j : (Nat → Int)} (t_v_blanchedWord : mA v_blanchedWord = v_blanchedWord_j) {v_debtWord : (Nat → Int32)} {v_debtWord_j : (Nat → Int)} (t_v_debtWord : mA v_debtWord = v_debtWord_j) {v_farmWord : (Nat → Int32)} {v_farmWord_j : (Nat → Int)} (t_v_farmWord : mA v_farmWord = v_farmWord_j) {v_forWord : (Nat → Int32)} {v_forWord_j : (Nat → Int)} (t_v_forWord : mA v_forWord = v_forWord_j) {v_inWord : (Nat → Int32)} {v_inWord_j : (Nat → Int)} (t_v_inWord : mA v_inWord = v_inWord_j) {v_maxWord : (Nat → Int32)} {v_maxWord_j : (Nat → Int)} (t_v_maxWord : mA v_maxWord = v_maxWord_j) {v_minWord : (Nat → Int32)} {v_minWord_j : (Nat → Int)} (t_v_minWord : mA v_minWord = v_minWord_j) {v_notWord : (Nat → Int32)} {v_notWord_j : (Nat → Int)} (t_v_notWord : mA v_notWord = v_notWord_j) {v_orWord : (Nat → Int32)} {v_orWord_j : (Nat → Int)} (t_v_orWord : mA v_orWord = v_orWord_j) {v_paidWord : (Nat → Int32)} {v_paidWord_j : (Nat → Int)} (t_v_paidWord : mA v_paidWord = v_paidWord_j) {v_pardonWord : (Nat → Int32)} {v_pardonWord_j : (Nat → Int)} (t_v_pardonWord : mA v_pardonWord = v_pardonWord_j) {v_penceWord : (Nat → Int32)} {v_penceWord_j : (Nat → Int)} (t_v_penceWord : mA v_penceWord = v_penceWord_j) {v_poundsWord : (Nat → Int32)} {v_poundsWord_j : (Nat → Int)} (t_v_poundsWord : mA v_poundsWord = v_poundsWord_j) {v_shillingsWord : (Nat → Int32)} {v_shillingsWord_j : (Nat → Int)} (t_v_shillingsWord : mA v_shillingsWord = v_shillingsWord_j) {v_shireWord : (Nat → Int32)} {v_shireWord_j : (Nat → Int)} (t_v_shireWord : mA v_shireWord = v_shireWord_j) {v_splitWord : (Nat → Int32)} {v_splitWord_j : (Nat → Int)} (t_v_splitWord : mA v_splitWord = v_splitWord_j) {v_tape : (Nat → Int32)} {v_tape_j : (Nat → Int)} (t_v_tape : mA v_tape = v_tape_j) {v_termWord : (Nat → Int32)} {v_termWord_j : (Nat → Int)} (t_v_termWord : mA v_termWord = v_termWord_j) {v_yearWord : (Nat → Int32)} {v_yearWord_j : (Nat → Int)} (t_v_yearWord : mA v_yearWord = v_yearWord_j) {v_at : Int32} {v_at_j : Int} (t_v_at : mI v_at = v_at_j) {v_bad : Int32} {v_bad_j : Int} (t_v_bad : mI v_bad = v_bad_j) {v_badPlace : Int32} {v_badPlace_j : Int} (t_v_badPlace : mI v_badPlace = v_badPlace_j) {v_base : Int32} {v_base_j : Int} (t_v_base : mI v_base = v_base_j) {v_coded : Int32} {v_coded_j : Int} (t_v_coded : mI v_coded = v_coded_j) {v_end : Int32} {v_end_j : Int} (t_v_end : mI v_end = v_end_j) {v_ended : Int32} {v_ended_j : Int} (t_v_ended : mI v_ended = v_ended_j) {v_fault : Int32} {v_fault_j : Int} (t_v_fault : mI v_fault = v_fault_j) {v_faultPlace : Int32} {v_faultPlace_j : Int} (t_v_faultPlace : mI v_faultPlace = v_faultPlace_j) {v_open : Int32} {v_open_j : Int} (t_v_open : mI v_open = v_open_j) {v_taped : Int32} {v_taped_j : Int} (t_v_taped : mI v_taped = v_taped_j) {v_waits : Int32} {v_waits_j : Int} (t_v_waits : mI v_waits = v_waits_j) {v_codes : (Nat → Int32)} {v_codes_j : (Nat → Int)} (t_v_codes : mA v_codes = v_codes_j) {v_first : (Nat → Int32)} {v_first_j : (Nat → Int)} (t_v_first : mA v_first = v_first_j) {v_isBlanched : (Nat → Int32)} {v_isBlanched_j : (Nat → Int)} (t_v_isBlanched : mA v_isBlanched = v_isBlanched_j) {v_many : (Nat → Int32)} {v_many_j : (Nat → Int)} (t_v_many : mA v_many = v_many_j) {v_second : (Nat → Int32)} {v_second_j : (Nat → Int)} (t_v_second : mA v_second = v_second_j) {v_sort : (Nat → Int32)} {v_sort_j : (Nat → Int)} (t_v_sort : mA v_sort = v_sort_j) {v_sumEnd : (Nat → Int32)} {v_sumEnd_j : (Nat → Int)} (t_v_sumEnd : mA v_sumEnd = v_sumEnd_j) {v_sumFrom : (Nat → Int32)} {v_sumFrom_j : (Nat → Int)} (t_v_sumFrom : mA v_sumFrom = v_sumFrom_j) {v_testEnd : (Nat → Int32)} {v_testEnd_j : (Nat → Int)} (t_v_testEnd : mA v_testEnd = v_testEnd_j) {v_wait : (Nat → Int32)} {v_wait_j : (Nat → Int)} (t_v_wait : mA v_wait = v_wait_j) : tl (mP mI (mP mI (mP mI (mP mI (mP mI (mP mI (mP mI (mP mI (mP mI (mP mI (mP mI (mP mI (mP mI (mP mA (mP mA (mP mA (mP mA (mP mA (mP mA (mP mA (mP mA (mP mA mA)))))))))))))))))))))) (iM_reads_b67 N_j v_allWord_j v_allowWord_j v_andWord_j v_blanchedWord_j v_debtWord_j v_farmWord_j v_forWord_j v_inWord_j v_maxWord_j v_minWord_j v_notWord_j v_orWord_j v_paidWord_j v_pardonWord_j v_penceWord_j v_poundsWord_j v_shillingsWord_j v_shireWord_j v_splitWord_j v_tape_j v_termWord_j v_yearWord_j v_at_j v_bad_j v_badPlace_j v_base_j v_coded_j v_end_j v_ended_j v_fault_j v_faultPlace_j v_open_j v_taped_j v_waits_j v_codes_j v_first_j v_isBlanched_j v_many_j v_second_j v_sort_j v_sumEnd_j v_sumFrom_j v_testEnd_j v_wait_j) (pM_reads_b67 N v_allWord v_allowWord v_andWord v_blanchedWord v_debtWord v_farmWord v_forWord v_inWord v_maxWord v_minWord v_notWord v_orWord v_paidWord v_pardonWord v_penceWord v_poundsWord v_shillingsWord v_shireWord v_splitWord v_tape v_termWord v_yearWord v_at v_bad v_badPlace v_base v_coded v_end v_ended v_fault v_faultPlace v_open v_taped v_waits v_codes v_first v_isBlanched v_many v_second v_sort v_sumEnd v_sumFrom v_testEnd v_wait) := by
  subst t_N
  subst t_v_allWord
  subst t_v_allowWord
  subst t_v_andWord
  subst t_v_blanchedWord
  subst t_v_debtWord
  subst t_v_farmWord
  subst t_v_forWord
  subst t_v_inWord
  subst t_v_maxWord
  subst t_v_minWord
  subst t_v_notWord
  subst t_v_orWord
  subst t_v_paidWord
  subst t_v_pardonWord
  subst t_v_penceWord
  subst t_v_poundsWord
  subst t_v_shillingsWord
  subst t_v_shireWord
  subst t_v_splitWord
  subst t_v_tape
  subst t_v_termWord
  subst t_v_yearWord
  subst t_v_at
  subst t_v_bad
  subst t_v_badPlace
  subst t_v_base
  subst t_v_coded
  subst t_v_end
  subst t_v_ended
  subst t_v_fault
  subst t_v_faultPlace
  subst t_v_open
  subst t_v_taped
  subst t_v_waits
  subst t_v_codes
  subst t_v_first
  subst t_v_isBlanched
  subst t_v_many
  subst t_v_second
  subst t_v_sort
  subst t_v_sumEnd
  subst t_v_sumFrom
  subst t_v_testEnd
  subst t_v_wait
  unfold iM_reads_b67 pM_reads_b67
  refine tl_ite (jc_eq (Eq.refl (mI v_bad)) jlitI_0) ?_ ?_
  · exact (tl_some (jp2 jlitI_1 (jp2 (Eq.refl (mI v_at)) (jp2 (Eq.refl (mI v_bad)) (jp2 (Eq.refl (mI v_badPlace)) (jp2 (Eq.refl (mI v_base)) (jp2 (Eq.refl (mI v_coded)) (jp2 (Eq.refl (mI v_end)) (jp2 (Eq.refl (mI v_ended)) (jp2 (Eq.refl (mI v_bad)) (jp2 (Eq.refl (mI v_badPlace)) (jp2 (Eq.refl (mI v_open)) (jp2 (Eq.refl (mI v_taped)) (jp2 (Eq.refl (mI v_waits)) (jp2 (Eq.refl (mA v_codes)) (jp2 (Eq.refl (mA v_first)) (jp2 (Eq.refl (mA v_isBlanched)) (jp2 (Eq.refl (mA v_many)) (jp2 (Eq.refl (mA v_second)) (jp2 (Eq.refl (mA v_sort)) (jp2 (Eq.refl (mA v_sumEnd)) (jp2 (Eq.refl (mA v_sumFrom)) (jp2 (Eq.refl (mA v_testEnd)) (Eq.refl (mA v_wait)))))))))))))))))))))))))
  · exact (tl_some (jp2 jlitI_0 (jp2 (Eq.refl (mI v_at)) (jp2 (Eq.refl (mI v_bad)) (jp2 (Eq.refl (mI v_badPlace)) (jp2 (Eq.refl (mI v_base)) (jp2 (Eq.refl (mI v_coded)) (jp2 (Eq.refl (mI v_end)) (jp2 (Eq.refl (mI v_ended)) (jp2 (Eq.refl (mI v_bad)) (jp2 (Eq.refl (mI v_badPlace)) (jp2 (Eq.refl (mI v_open)) (jp2 (Eq.refl (mI v_taped)) (jp2 (Eq.refl (mI v_waits)) (jp2 (Eq.refl (mA v_codes)) (jp2 (Eq.refl (mA v_first)) (jp2 (Eq.refl (mA v_isBlanched)) (jp2 (Eq.refl (mA v_many)) (jp2 (Eq.refl (mA v_second)) (jp2 (Eq.refl (mA v_sort)) (jp2 (Eq.refl (mA v_sumEnd)) (jp2 (Eq.refl (mA v_sumFrom)) (jp2 (Eq.refl (mA v_testEnd)) (Eq.refl (mA v_wait)))))))))))))))))))))))))
theorem t_pM_reads {N N_j : Nat} (t_N : N = N_j) {v_at : Int32} {v_at_j : Int} (t_v_at : mI v_at = v_at_j) {v_bad : Int32} {v_bad_j : Int} (t_v_bad : mI v_bad = v_bad_j) {v_badPlace : Int32} {v_badPlace_j : Int} (t_v_badPlace : mI v_badPlace = v_badPlace_j) {v_base : Int32} {v_base_j : Int} (t_v_base : mI v_base = v_base_j) {v_coded : Int32} {v_coded_j : Int} (t_v_coded : mI v_coded = v_coded_j) {v_end : Int32} {v_end_j : Int} (t_v_end : mI v_end = v_end_j) {v_ended : Int32} {v_ended_j : Int} (t_v_ended : mI v_ended = v_ended_j) {v_fault : Int32} {v_fault_j : Int} (t_v_fault : mI v_fault = v_fault_j) {v_faultPlace : Int32} {v_faultPlace_j : Int} (t_v_faultPlace : mI v_faultPlace = v_faultPlace_j) {v_open : Int32} {v_open_j : Int} (t_v_open : mI v_open = v_open_j) {v_taped : Int32} {v_taped_j : Int} (t_v_taped : mI v_taped = v_taped_j) {v_waits : Int32} {v_waits_j : Int} (t_v_waits : mI v_waits = v_waits_j) {v_allWord : (Nat → Int32)} {v_allWord_j : (Nat → Int)} (t_v_allWord : mA v_allWord = v_allWord_j) {v_allowWord : (Nat → Int32)} {v_allowWord_j : (Nat → Int)} (t_v_allowWord : mA v_allowWord = v_allowWord_j) {v_andWord : (Nat → Int32)} {v_andWord_j : (Nat → Int)} (t_v_andWord : mA v_andWord = v_andWord_j) {v_blanchedWord : (Nat → Int32)} {v_blanchedWord_j : (Nat → Int)} (t_v_blanchedWord : mA v_blanchedWord = v_blanchedWord_j) {v_codes : (Nat → Int32)} {v_codes_j : (Nat → Int)} (t_v_codes : mA v_codes = v_codes_j) {v_debtWord : (Nat → Int32)} {v_debtWord_j : (Nat → Int)} (t_v_debtWord : mA v_debtWord = v_debtWord_j) {v_farmWord : (Nat → Int32)} {v_farmWord_j : (Nat → Int)} (t_v_farmWord : mA v_farmWord = v_farmWord_j) {v_first : (Nat → Int32)} {v_first_j : (Nat → Int)} (t_v_first : mA v_first = v_first_j) {v_forWord : (Nat → Int32)} {v_forWord_j : (Nat → Int)} (t_v_forWord : mA v_forWord = v_forWord_j) {v_inWord : (Nat → Int32)} {v_inWord_j : (Nat → Int)} (t_v_inWord : mA v_inWord = v_inWord_j) {v_isBlanched : (Nat → Int32)} {v_isBlanched_j : (Nat → Int)} (t_v_isBlanched : mA v_isBlanched = v_isBlanched_j) {v_many : (Nat → Int32)} {v_many_j : (Nat → Int)} (t_v_many : mA v_many = v_many_j) {v_maxWord : (Nat → Int32)} {v_maxWord_j : (Nat → Int)} (t_v_maxWord : mA v_maxWord = v_maxWord_j) {v_minWord : (Nat → Int32)} {v_minWord_j : (Nat → Int)} (t_v_minWord : mA v_minWord = v_minWord_j) {v_notWord : (Nat → Int32)} {v_notWord_j : (Nat → Int)} (t_v_notWord : mA v_notWord = v_notWord_j) {v_orWord : (Nat → Int32)} {v_orWord_j : (Nat → Int)} (t_v_orWord : mA v_orWord = v_orWord_j) {v_paidWord : (Nat → Int32)} {v_paidWord_j : (Nat → Int)} (t_v_paidWord : mA v_paidWord = v_paidWord_j) {v_pardonWord : (Nat → Int32)} {v_pardonWord_j : (Nat → Int)} (t_v_pardonWord : mA v_pardonWord = v_pardonWord_j) {v_penceWord : (Nat → Int32)} {v_penceWord_j : (Nat → Int)} (t_v_penceWord : mA v_penceWord = v_penceWord_j) {v_poundsWord : (Nat → Int32)} {v_poundsWord_j : (Nat → Int)} (t_v_poundsWord : mA v_poundsWord = v_poundsWord_j) {v_second : (Nat → Int32)} {v_second_j : (Nat → Int)} (t_v_second : mA v_second = v_second_j) {v_shillingsWord : (Nat → Int32)} {v_shillingsWord_j : (Nat → Int)} (t_v_shillingsWord : mA v_shillingsWord = v_shillingsWord_j) {v_shireWord : (Nat → Int32)} {v_shireWord_j : (Nat → Int)} (t_v_shireWord : mA v_shireWord = v_shireWord_j) {v_sort : (Nat → Int32)} {v_sort_j : (Nat → Int)} (t_v_sort : mA v_sort = v_sort_j) {v_splitWord : (Nat → Int32)} {v_splitWord_j : (Nat → Int)} (t_v_splitWord : mA v_splitWord = v_splitWord_j) {v_sumEnd : (Nat → Int32)} {v_sumEnd_j : (Nat → Int)} (t_v_sumEnd : mA v_sumEnd = v_sumEnd_j) {v_sumFrom : (Nat → Int32)} {v_sumFrom_j : (Nat → Int)} (t_v_sumFrom : mA v_sumFrom = v_sumFrom_j) {v_tape : (Nat → Int32)} {v_tape_j : (Nat → Int)} (t_v_tape : mA v_tape = v_tape_j) {v_termWord : (Nat → Int32)} {v_termWord_j : (Nat → Int)} (t_v_termWord : mA v_termWord = v_termWord_j) {v_testEnd : (Nat → Int32)} {v_testEnd_j : (Nat → Int)} (t_v_testEnd : mA v_testEnd = v_testEnd_j) {v_wait : (Nat → Int32)} {v_wait_j : (Nat → Int)} (t_v_wait : mA v_wait = v_wait_j) {v_yearWord : (Nat → Int32)} {v_yearWord_j : (Nat → Int)} (t_v_yearWord : mA v_yearWord = v_yearWord_j) : tl (mP mI (mP mI (mP mI (mP mI (mP mI (mP mI (mP mI (mP mI (mP mI (mP mI (mP mI (mP mI (mP mI (mP mA (mP mA (mP mA (mP mA (mP mA (mP mA (mP mA (mP mA (mP mA mA)))))))))))))))))))))) (iM_reads N_j v_at_j v_bad_j v_badPlace_j v_base_j v_coded_j v_end_j v_ended_j v_fault_j v_faultPlace_j v_open_j v_taped_j v_waits_j v_allWord_j v_allowWord_j v_andWord_j v_blanchedWord_j v_codes_j v_debtWord_j v_farmWord_j v_first_j v_forWord_j v_inWord_j v_isBlanched_j v_many_j v_maxWord_j v_minWord_j v_notWord_j v_orWord_j v_paidWord_j v_pardonWord_j v_penceWord_j v_poundsWord_j v_second_j v_shillingsWord_j v_shireWord_j v_sort_j v_splitWord_j v_sumEnd_j v_sumFrom_j v_tape_j v_termWord_j v_testEnd_j v_wait_j v_yearWord_j) (pM_reads N v_at v_bad v_badPlace v_base v_coded v_end v_ended v_fault v_faultPlace v_open v_taped v_waits v_allWord v_allowWord v_andWord v_blanchedWord v_codes v_debtWord v_farmWord v_first v_forWord v_inWord v_isBlanched v_many v_maxWord v_minWord v_notWord v_orWord v_paidWord v_pardonWord v_penceWord v_poundsWord v_second v_shillingsWord v_shireWord v_sort v_splitWord v_sumEnd v_sumFrom v_tape v_termWord v_testEnd v_wait v_yearWord) := by
  subst t_N
  subst t_v_at
  subst t_v_bad
  subst t_v_badPlace
  subst t_v_base
  subst t_v_coded
  subst t_v_end
  subst t_v_ended
  subst t_v_fault
  subst t_v_faultPlace
  subst t_v_open
  subst t_v_taped
  subst t_v_waits
  subst t_v_allWord
  subst t_v_allowWord
  subst t_v_andWord
  subst t_v_blanchedWord
  subst t_v_codes
  subst t_v_debtWord
  subst t_v_farmWord
  subst t_v_first
  subst t_v_forWord
  subst t_v_inWord
  subst t_v_isBlanched
  subst t_v_many
  subst t_v_maxWord
  subst t_v_minWord
  subst t_v_notWord
  subst t_v_orWord
  subst t_v_paidWord
  subst t_v_pardonWord
  subst t_v_penceWord
  subst t_v_poundsWord
  subst t_v_second
  subst t_v_shillingsWord
  subst t_v_shireWord
  subst t_v_sort
  subst t_v_splitWord
  subst t_v_sumEnd
  subst t_v_sumFrom
  subst t_v_tape
  subst t_v_termWord
  subst t_v_testEnd
  subst t_v_wait
  subst t_v_yearWord
  unfold iM_reads pM_reads
  exact (t_pM_reads_b45 (Eq.refl N) (Eq.refl (mA v_allWord)) (Eq.refl (mA v_allowWord)) (Eq.refl (mA v_andWord)) (Eq.refl (mA v_blanchedWord)) (Eq.refl (mA v_debtWord)) (Eq.refl (mA v_farmWord)) (Eq.refl (mA v_forWord)) (Eq.refl (mA v_inWord)) (Eq.refl (mA v_maxWord)) (Eq.refl (mA v_minWord)) (Eq.refl (mA v_notWord)) (Eq.refl (mA v_orWord)) (Eq.refl (mA v_paidWord)) (Eq.refl (mA v_pardonWord)) (Eq.refl (mA v_penceWord)) (Eq.refl (mA v_poundsWord)) (Eq.refl (mA v_shillingsWord)) (Eq.refl (mA v_shireWord)) (Eq.refl (mA v_splitWord)) (Eq.refl (mA v_tape)) (Eq.refl (mA v_termWord)) (Eq.refl (mA v_yearWord)) (Eq.refl (mI v_taped)) (Eq.refl (mI v_fault)) (Eq.refl (mI v_faultPlace)) jlitI_0 (fun v_at_k1 v_bad_k2 v_badPlace_k3 v_base_k4 v_coded_k5 v_ended_k6 v_open_k7 e34_ e35_ e36_ e37_ e38_ e39_ e40_ e41_ e42_ e43_ e44_ => by exact (t_pM_reads_b67 (Eq.refl N) (Eq.refl (mA v_allWord)) (Eq.refl (mA v_allowWord)) (Eq.refl (mA v_andWord)) (Eq.refl (mA v_blanchedWord)) (Eq.refl (mA v_debtWord)) (Eq.refl (mA v_farmWord)) (Eq.refl (mA v_forWord)) (Eq.refl (mA v_inWord)) (Eq.refl (mA v_maxWord)) (Eq.refl (mA v_minWord)) (Eq.refl (mA v_notWord)) (Eq.refl (mA v_orWord)) (Eq.refl (mA v_paidWord)) (Eq.refl (mA v_pardonWord)) (Eq.refl (mA v_penceWord)) (Eq.refl (mA v_poundsWord)) (Eq.refl (mA v_shillingsWord)) (Eq.refl (mA v_shireWord)) (Eq.refl (mA v_splitWord)) (Eq.refl (mA v_tape)) (Eq.refl (mA v_termWord)) (Eq.refl (mA v_yearWord)) (Eq.refl (mI v_at_k1)) (Eq.refl (mI v_bad_k2)) (Eq.refl (mI v_badPlace_k3)) (Eq.refl (mI v_base_k4)) (Eq.refl (mI v_coded_k5)) (Eq.refl (mI v_taped)) (Eq.refl (mI v_ended_k6)) (Eq.refl (mI v_fault)) (Eq.refl (mI v_faultPlace)) (Eq.refl (mI v_open_k7)) jlitI_0 (Eq.refl (mI e34_)) (Eq.refl (mA e35_)) (Eq.refl (mA e36_)) (Eq.refl (mA e37_)) (Eq.refl (mA e38_)) (Eq.refl (mA e39_)) (Eq.refl (mA e40_)) (Eq.refl (mA e41_)) (Eq.refl (mA e42_)) (Eq.refl (mA e43_)) (Eq.refl (mA e44_)))) (Eq.refl N) jlitI_0 jlitI_0 jlitI_m1 (Eq.refl (mI v_base)) jlitI_0 jlitI_m1 (Eq.refl (mI v_open)) (Eq.refl (mI v_waits)) (Eq.refl (mA v_codes)) (Eq.refl (mA v_first)) (Eq.refl (mA v_isBlanched)) (jupA (Eq.refl (mA v_many)) (jx jlitI_0) jlitI_0) (Eq.refl (mA v_second)) (Eq.refl (mA v_sort)) (Eq.refl (mA v_sumEnd)) (Eq.refl (mA v_sumFrom)) (Eq.refl (mA v_testEnd)) (Eq.refl (mA v_wait)))
theorem t_pM_copies_b14_F {N N_j : Nat} (t_N : N = N_j) {a1 : Int32} {a1_j : Int} (t_a1 : mI a1 = a1_j) {v_coded : Int32} {v_coded_j : Int} (t_v_coded : mI v_coded = v_coded_j) {v_codes : (Nat → Int32)} {v_codes_j : (Nat → Int)} (t_v_codes : mA v_codes = v_codes_j) {v_many : (Nat → Int32)} {v_many_j : (Nat → Int)} (t_v_many : mA v_many = v_many_j) {k133 : (Nat → Int32) → (Nat → Int32) → (Nat → Int32) → (Nat → Int32) → (Nat → Int32) → (Nat → Int32) → (Nat → Int32) → Option R_pM_copies} {k133_j : (Nat → Int) → (Nat → Int) → (Nat → Int) → (Nat → Int) → (Nat → Int) → (Nat → Int) → (Nat → Int) → Option R_iM_copies} (t_k133 : ∀ (q0_ : (Nat → Int32)) (q1_ : (Nat → Int32)) (q2_ : (Nat → Int32)) (q3_ : (Nat → Int32)) (q4_ : (Nat → Int32)) (q5_ : (Nat → Int32)) (q6_ : (Nat → Int32)), tl (mP mA (mP mA (mP mA (mP mA (mP mA (mP mA (mP mA (mP mA mA)))))))) (k133_j (mA q0_) (mA q1_) (mA q2_) (mA q3_) (mA q4_) (mA q5_) (mA q6_)) (k133 q0_ q1_ q2_ q3_ q4_ q5_ q6_)) {self : Int32 → (Nat → Int32) → (Nat → Int32) → (Nat → Int32) → (Nat → Int32) → (Nat → Int32) → (Nat → Int32) → (Nat → Int32) → Option R_pM_copies} {self_j : Int → (Nat → Int) → (Nat → Int) → (Nat → Int) → (Nat → Int) → (Nat → Int) → (Nat → Int) → (Nat → Int) → Option R_iM_copies} (t_self : ∀ (q0_ : Int32) (q1_ : (Nat → Int32)) (q2_ : (Nat → Int32)) (q3_ : (Nat → Int32)) (q4_ : (Nat → Int32)) (q5_ : (Nat → Int32)) (q6_ : (Nat → Int32)) (q7_ : (Nat → Int32)), tl (mP mA (mP mA (mP mA (mP mA (mP mA (mP mA (mP mA (mP mA mA)))))))) (self_j (mI q0_) (mA q1_) (mA q2_) (mA q3_) (mA q4_) (mA q5_) (mA q6_) (mA q7_)) (self q0_ q1_ q2_ q3_ q4_ q5_ q6_ q7_)) {x2 : Int32} {x2_j : Int} (t_x2 : mI x2 = x2_j) {v_first : (Nat → Int32)} {v_first_j : (Nat → Int)} (t_v_first : mA v_first = v_first_j) {v_isBlanched : (Nat → Int32)} {v_isBlanched_j : (Nat → Int)} (t_v_isBlanched : mA v_isBlanched = v_isBlanched_j) {v_second : (Nat → Int32)} {v_second_j : (Nat → Int)} (t_v_second : mA v_second = v_second_j) {v_sort : (Nat → Int32)} {v_sort_j : (Nat → Int)} (t_v_sort : mA v_sort = v_sort_j) {v_sumEnd : (Nat → Int32)} {v_sumEnd_j : (Nat → Int)} (t_v_sumEnd : mA v_sumEnd = v_sumEnd_j) {v_sumFrom : (Nat → Int32)} {v_sumFrom_j : (Nat → Int)} (t_v_sumFrom : mA v_sumFrom = v_sumFrom_j) {v_testEnd : (Nat → Int32)} {v_testEnd_j : (Nat → Int)} (t_v_testEnd : mA v_testEnd = v_testEnd_j) : tl (mP mA (mP mA (mP mA (mP mA (mP mA (mP mA (mP mA (mP mA mA)))))))) (iM_copies_b14_F N_j a1_j v_coded_j v_codes_j v_many_j k133_j self_j x2_j v_first_j v_isBlanched_j v_second_j v_sort_j v_sumEnd_j v_sumFrom_j v_testEnd_j) (pM_copies_b14_F N a1 v_coded v_codes v_many k133 self x2 v_first v_isBlanched v_second v_sort v_sumEnd v_sumFrom v_testEnd) := by
  subst t_N
  subst t_a1
  subst t_v_coded
  subst t_v_codes
  subst t_v_many
  subst t_x2
  subst t_v_first
  subst t_v_isBlanched
  subst t_v_second
  subst t_v_sort
  subst t_v_sumEnd
  subst t_v_sumFrom
  subst t_v_testEnd
  unfold iM_copies_b14_F pM_copies_b14_F
  refine tl_ite (jc_le (jrd (Eq.refl (mA v_many)) (jx jlitI_0)) (Eq.refl (mI x2))) ?_ ?_
  · exact (tl_e7 (Eq.refl (mA v_first)) (Eq.refl (mA v_isBlanched)) (Eq.refl (mA v_second)) (Eq.refl (mA v_sort)) (Eq.refl (mA v_sumEnd)) (Eq.refl (mA v_sumFrom)) (Eq.refl (mA v_testEnd)) (t_k133 _ _ _ _ _ _ _))
  · refine tl_g (fun h1 => ?_)
    refine tl_gd (jg_ib (ja_add jlitI_0 (Eq.refl (mI x2)) h1)) (fun _ => ?_)
    refine tl_g (fun h2 => ?_)
    refine tl_g (fun h3 => ?_)
    refine tl_gd (jg_ib (ja_add (ja_mul jlitI_24 (Eq.refl (mI a1)) h2) (Eq.refl (mI x2)) h3)) (fun _ => ?_)
    refine tl_g (fun h4 => ?_)
    exact (tl_e8 (ja_add (Eq.refl (mI x2)) jlitI_1 h4) (jupA (Eq.refl (mA v_first)) (jx (ja_add (ja_mul jlitI_24 (Eq.refl (mI a1)) h2) (Eq.refl (mI x2)) h3)) (jrd (Eq.refl (mA v_first)) (jx (ja_add jlitI_0 (Eq.refl (mI x2)) h1)))) (jupA (Eq.refl (mA v_isBlanched)) (jx (ja_add (ja_mul jlitI_24 (Eq.refl (mI a1)) h2) (Eq.refl (mI x2)) h3)) (ja_nZ (jrd (Eq.refl (mA v_isBlanched)) (jx (ja_add jlitI_0 (Eq.refl (mI x2)) h1))))) (jupA (Eq.refl (mA v_second)) (jx (ja_add (ja_mul jlitI_24 (Eq.refl (mI a1)) h2) (Eq.refl (mI x2)) h3)) (jrd (Eq.refl (mA v_second)) (jx (ja_add jlitI_0 (Eq.refl (mI x2)) h1)))) (jupA (Eq.refl (mA v_sort)) (jx (ja_add (ja_mul jlitI_24 (Eq.refl (mI a1)) h2) (Eq.refl (mI x2)) h3)) (jrd (Eq.refl (mA v_sort)) (jx (ja_add jlitI_0 (Eq.refl (mI x2)) h1)))) (jupA (Eq.refl (mA v_sumEnd)) (jx (ja_add (ja_mul jlitI_24 (Eq.refl (mI a1)) h2) (Eq.refl (mI x2)) h3)) (jrd (Eq.refl (mA v_sumEnd)) (jx (ja_add jlitI_0 (Eq.refl (mI x2)) h1)))) (jupA (Eq.refl (mA v_sumFrom)) (jx (ja_add (ja_mul jlitI_24 (Eq.refl (mI a1)) h2) (Eq.refl (mI x2)) h3)) (jrd (Eq.refl (mA v_sumFrom)) (jx (ja_add jlitI_0 (Eq.refl (mI x2)) h1)))) (jupA (Eq.refl (mA v_testEnd)) (jx (ja_add (ja_mul jlitI_24 (Eq.refl (mI a1)) h2) (Eq.refl (mI x2)) h3)) (jrd (Eq.refl (mA v_testEnd)) (jx (ja_add jlitI_0 (Eq.refl (mI x2)) h1)))) (t_self _ _ _ _ _ _ _ _))
theorem t_pM_copies_b14 {N N_j : Nat} (t_N : N = N_j) {a1 : Int32} {a1_j : Int} (t_a1 : mI a1 = a1_j) {v_coded : Int32} {v_coded_j : Int} (t_v_coded : mI v_coded = v_coded_j) {v_codes : (Nat → Int32)} {v_codes_j : (Nat → Int)} (t_v_codes : mA v_codes = v_codes_j) {v_many : (Nat → Int32)} {v_many_j : (Nat → Int)} (t_v_many : mA v_many = v_many_j) {k133 : (Nat → Int32) → (Nat → Int32) → (Nat → Int32) → (Nat → Int32) → (Nat → Int32) → (Nat → Int32) → (Nat → Int32) → Option R_pM_copies} {k133_j : (Nat → Int) → (Nat → Int) → (Nat → Int) → (Nat → Int) → (Nat → Int) → (Nat → Int) → (Nat → Int) → Option R_iM_copies} (t_k133 : ∀ (q0_ : (Nat → Int32)) (q1_ : (Nat → Int32)) (q2_ : (Nat → Int32)) (q3_ : (Nat → Int32)) (q4_ : (Nat → Int32)) (q5_ : (Nat → Int32)) (q6_ : (Nat → Int32)), tl (mP mA (mP mA (mP mA (mP mA (mP mA (mP mA (mP mA (mP mA mA)))))))) (k133_j (mA q0_) (mA q1_) (mA q2_) (mA q3_) (mA q4_) (mA q5_) (mA q6_)) (k133 q0_ q1_ q2_ q3_ q4_ q5_ q6_)) {n n_j : Nat} (t_n : n = n_j) {w0_ : Int32} {w0__j : Int} (t_w0_ : mI w0_ = w0__j) {w1_ : (Nat → Int32)} {w1__j : (Nat → Int)} (t_w1_ : mA w1_ = w1__j) {w2_ : (Nat → Int32)} {w2__j : (Nat → Int)} (t_w2_ : mA w2_ = w2__j) {w3_ : (Nat → Int32)} {w3__j : (Nat → Int)} (t_w3_ : mA w3_ = w3__j) {w4_ : (Nat → Int32)} {w4__j : (Nat → Int)} (t_w4_ : mA w4_ = w4__j) {w5_ : (Nat → Int32)} {w5__j : (Nat → Int)} (t_w5_ : mA w5_ = w5__j) {w6_ : (Nat → Int32)} {w6__j : (Nat → Int)} (t_w6_ : mA w6_ = w6__j) {w7_ : (Nat → Int32)} {w7__j : (Nat → Int)} (t_w7_ : mA w7_ = w7__j) : tl (mP mA (mP mA (mP mA (mP mA (mP mA (mP mA (mP mA (mP mA mA)))))))) (iM_copies_b14 N_j a1_j v_coded_j v_codes_j v_many_j k133_j n_j w0__j w1__j w2__j w3__j w4__j w5__j w6__j w7__j) (pM_copies_b14 N a1 v_coded v_codes v_many k133 n w0_ w1_ w2_ w3_ w4_ w5_ w6_ w7_) := by
  subst t_N
  subst t_a1
  subst t_v_coded
  subst t_v_codes
  subst t_v_many
  subst t_n
  subst t_w0_
  subst t_w1_
  subst t_w2_
  subst t_w3_
  subst t_w4_
  subst t_w5_
  subst t_w6_
  subst t_w7_
  exact tl_zlp8 (fun s2 s hs w0_ w1_ w2_ w3_ w4_ w5_ w6_ w7_ => t_pM_copies_b14_F (Eq.refl N) (Eq.refl (mI a1)) (Eq.refl (mI v_coded)) (Eq.refl (mA v_codes)) (Eq.refl (mA v_many)) t_k133 hs (Eq.refl (mI w0_)) (Eq.refl (mA w1_)) (Eq.refl (mA w2_)) (Eq.refl (mA w3_)) (Eq.refl (mA w4_)) (Eq.refl (mA w5_)) (Eq.refl (mA w6_)) (Eq.refl (mA w7_))) n w0_ w1_ w2_ w3_ w4_ w5_ w6_ w7_
theorem t_pM_copies_b135_F {N N_j : Nat} (t_N : N = N_j) {a1 : Int32} {a1_j : Int} (t_a1 : mI a1 = a1_j) {v_coded : Int32} {v_coded_j : Int} (t_v_coded : mI v_coded = v_coded_j) {v_first : (Nat → Int32)} {v_first_j : (Nat → Int)} (t_v_first : mA v_first = v_first_j) {v_isBlanched : (Nat → Int32)} {v_isBlanched_j : (Nat → Int)} (t_v_isBlanched : mA v_isBlanched = v_isBlanched_j) {v_many : (Nat → Int32)} {v_many_j : (Nat → Int)} (t_v_many : mA v_many = v_many_j) {v_second : (Nat → Int32)} {v_second_j : (Nat → Int)} (t_v_second : mA v_second = v_second_j) {v_sort : (Nat → Int32)} {v_sort_j : (Nat → Int)} (t_v_sort : mA v_sort = v_sort_j) {v_sumEnd : (Nat → Int32)} {v_sumEnd_j : (Nat → Int)} (t_v_sumEnd : mA v_sumEnd = v_sumEnd_j) {v_sumFrom : (Nat → Int32)} {v_sumFrom_j : (Nat → Int)} (t_v_sumFrom : mA v_sumFrom = v_sumFrom_j) {v_testEnd : (Nat → Int32)} {v_testEnd_j : (Nat → Int)} (t_v_testEnd : mA v_testEnd = v_testEnd_j) {self : Int32 → (Nat → Int32) → Option R_pM_copies} {self_j : Int → (Nat → Int) → Option R_iM_copies} (t_self : ∀ (q0_ : Int32) (q1_ : (Nat → Int32)), tl (mP mA (mP mA (mP mA (mP mA (mP mA (mP mA (mP mA (mP mA mA)))))))) (self_j (mI q0_) (mA q1_)) (self q0_ q1_)) {x2 : Int32} {x2_j : Int} (t_x2 : mI x2 = x2_j) {v_codes : (Nat → Int32)} {v_codes_j : (Nat → Int)} (t_v_codes : mA v_codes = v_codes_j) : tl (mP mA (mP mA (mP mA (mP mA (mP mA (mP mA (mP mA (mP mA mA)))))))) (iM_copies_b135_F N_j a1_j v_coded_j v_first_j v_isBlanched_j v_many_j v_second_j v_sort_j v_sumEnd_j v_sumFrom_j v_testEnd_j self_j x2_j v_codes_j) (pM_copies_b135_F N a1 v_coded v_first v_isBlanched v_many v_second v_sort v_sumEnd v_sumFrom v_testEnd self x2 v_codes) := by
  subst t_N
  subst t_a1
  subst t_v_coded
  subst t_v_first
  subst t_v_isBlanched
  subst t_v_many
  subst t_v_second
  subst t_v_sort
  subst t_v_sumEnd
  subst t_v_sumFrom
  subst t_v_testEnd
  subst t_x2
  subst t_v_codes
  unfold iM_copies_b135_F pM_copies_b135_F
  refine tl_ite (jc_le (Eq.refl (mI v_coded)) (Eq.refl (mI x2))) ?_ ?_
  · exact (tl_some (jp2 (Eq.refl (mA v_codes)) (jp2 (Eq.refl (mA v_first)) (jp2 (Eq.refl (mA v_isBlanched)) (jp2 (Eq.refl (mA v_many)) (jp2 (Eq.refl (mA v_second)) (jp2 (Eq.refl (mA v_sort)) (jp2 (Eq.refl (mA v_sumEnd)) (jp2 (Eq.refl (mA v_sumFrom)) (Eq.refl (mA v_testEnd)))))))))))
  · refine tl_g (fun h1 => ?_)
    refine tl_gd (jg_ib (ja_add jlitI_0 (Eq.refl (mI x2)) h1)) (fun _ => ?_)
    refine tl_g (fun h2 => ?_)
    refine tl_g (fun h3 => ?_)
    refine tl_gd (jg_ib (ja_add (ja_mul jlitI_640 (Eq.refl (mI a1)) h2) (Eq.refl (mI x2)) h3)) (fun _ => ?_)
    refine tl_g (fun h4 => ?_)
    exact (tl_e2 (ja_add (Eq.refl (mI x2)) jlitI_1 h4) (jupA (Eq.refl (mA v_codes)) (jx (ja_add (ja_mul jlitI_640 (Eq.refl (mI a1)) h2) (Eq.refl (mI x2)) h3)) (jrd (Eq.refl (mA v_codes)) (jx (ja_add jlitI_0 (Eq.refl (mI x2)) h1)))) (t_self _ _))
theorem t_pM_copies_b135 {N N_j : Nat} (t_N : N = N_j) {a1 : Int32} {a1_j : Int} (t_a1 : mI a1 = a1_j) {v_coded : Int32} {v_coded_j : Int} (t_v_coded : mI v_coded = v_coded_j) {v_first : (Nat → Int32)} {v_first_j : (Nat → Int)} (t_v_first : mA v_first = v_first_j) {v_isBlanched : (Nat → Int32)} {v_isBlanched_j : (Nat → Int)} (t_v_isBlanched : mA v_isBlanched = v_isBlanched_j) {v_many : (Nat → Int32)} {v_many_j : (Nat → Int)} (t_v_many : mA v_many = v_many_j) {v_second : (Nat → Int32)} {v_second_j : (Nat → Int)} (t_v_second : mA v_second = v_second_j) {v_sort : (Nat → Int32)} {v_sort_j : (Nat → Int)} (t_v_sort : mA v_sort = v_sort_j) {v_sumEnd : (Nat → Int32)} {v_sumEnd_j : (Nat → Int)} (t_v_sumEnd : mA v_sumEnd = v_sumEnd_j) {v_sumFrom : (Nat → Int32)} {v_sumFrom_j : (Nat → Int)} (t_v_sumFrom : mA v_sumFrom = v_sumFrom_j) {v_testEnd : (Nat → Int32)} {v_testEnd_j : (Nat → Int)} (t_v_testEnd : mA v_testEnd = v_testEnd_j) {n n_j : Nat} (t_n : n = n_j) {w0_ : Int32} {w0__j : Int} (t_w0_ : mI w0_ = w0__j) {w1_ : (Nat → Int32)} {w1__j : (Nat → Int)} (t_w1_ : mA w1_ = w1__j) : tl (mP mA (mP mA (mP mA (mP mA (mP mA (mP mA (mP mA (mP mA mA)))))))) (iM_copies_b135 N_j a1_j v_coded_j v_first_j v_isBlanched_j v_many_j v_second_j v_sort_j v_sumEnd_j v_sumFrom_j v_testEnd_j n_j w0__j w1__j) (pM_copies_b135 N a1 v_coded v_first v_isBlanched v_many v_second v_sort v_sumEnd v_sumFrom v_testEnd n w0_ w1_) := by
  subst t_N
  subst t_a1
  subst t_v_coded
  subst t_v_first
  subst t_v_isBlanched
  subst t_v_many
  subst t_v_second
  subst t_v_sort
  subst t_v_sumEnd
  subst t_v_sumFrom
  subst t_v_testEnd
  subst t_n
  subst t_w0_
  subst t_w1_
  exact tl_zlp2 (fun s2 s hs w0_ w1_ => t_pM_copies_b135_F (Eq.refl N) (Eq.refl (mI a1)) (Eq.refl (mI v_coded)) (Eq.refl (mA v_first)) (Eq.refl (mA v_isBlanched)) (Eq.refl (mA v_many)) (Eq.refl (mA v_second)) (Eq.refl (mA v_sort)) (Eq.refl (mA v_sumEnd)) (Eq.refl (mA v_sumFrom)) (Eq.refl (mA v_testEnd)) hs (Eq.refl (mI w0_)) (Eq.refl (mA w1_))) n w0_ w1_
theorem t_pM_copies_b133 {N N_j : Nat} (t_N : N = N_j) {a1 : Int32} {a1_j : Int} (t_a1 : mI a1 = a1_j) {v_coded : Int32} {v_coded_j : Int} (t_v_coded : mI v_coded = v_coded_j) {v_codes : (Nat → Int32)} {v_codes_j : (Nat → Int)} (t_v_codes : mA v_codes = v_codes_j) {v_first : (Nat → Int32)} {v_first_j : (Nat → Int)} (t_v_first : mA v_first = v_first_j) {v_isBlanched : (Nat → Int32)} {v_isBlanched_j : (Nat → Int)} (t_v_isBlanched : mA v_isBlanched = v_isBlanched_j) {v_many : (Nat → Int32)} {v_many_j : (Nat → Int)} (t_v_many : mA v_many = v_many_j) {v_second : (Nat → Int32)} {v_second_j : (Nat → Int)} (t_v_second : mA v_second = v_second_j) {v_sort : (Nat → Int32)} {v_sort_j : (Nat → Int)} (t_v_sort : mA v_sort = v_sort_j) {v_sumEnd : (Nat → Int32)} {v_sumEnd_j : (Nat → Int)} (t_v_sumEnd : mA v_sumEnd = v_sumEnd_j) {v_sumFrom : (Nat → Int32)} {v_sumFrom_j : (Nat → Int)} (t_v_sumFrom : mA v_sumFrom = v_sumFrom_j) {v_testEnd : (Nat → Int32)} {v_testEnd_j : (Nat → Int)} (t_v_testEnd : mA v_testEnd = v_testEnd_j) : tl (mP mA (mP mA (mP mA (mP mA (mP mA (mP mA (mP mA (mP mA mA)))))))) (iM_copies_b133 N_j a1_j v_coded_j v_codes_j v_first_j v_isBlanched_j v_many_j v_second_j v_sort_j v_sumEnd_j v_sumFrom_j v_testEnd_j) (pM_copies_b133 N a1 v_coded v_codes v_first v_isBlanched v_many v_second v_sort v_sumEnd v_sumFrom v_testEnd) := by
  subst t_N
  subst t_a1
  subst t_v_coded
  subst t_v_codes
  subst t_v_first
  subst t_v_isBlanched
  subst t_v_many
  subst t_v_second
  subst t_v_sort
  subst t_v_sumEnd
  subst t_v_sumFrom
  subst t_v_testEnd
  unfold iM_copies_b133 pM_copies_b133
  exact (t_pM_copies_b135 (Eq.refl N) (Eq.refl (mI a1)) (Eq.refl (mI v_coded)) (Eq.refl (mA v_first)) (Eq.refl (mA v_isBlanched)) (Eq.refl (mA v_many)) (Eq.refl (mA v_second)) (Eq.refl (mA v_sort)) (Eq.refl (mA v_sumEnd)) (Eq.refl (mA v_sumFrom)) (Eq.refl (mA v_testEnd)) (Eq.refl N) jlitI_0 (Eq.refl (mA v_codes)))
theorem t_pM_copies {N N_j : Nat} (t_N : N = N_j) {a1 : Int32} {a1_j : Int} (t_a1 : mI a1 = a1_j) {v_coded : Int32} {v_coded_j : Int} (t_v_coded : mI v_coded = v_coded_j) {v_codes : (Nat → Int32)} {v_codes_j : (Nat → Int)} (t_v_codes : mA v_codes = v_codes_j) {v_first : (Nat → Int32)} {v_first_j : (Nat → Int)} (t_v_first : mA v_first = v_first_j) {v_isBlanched : (Nat → Int32)} {v_isBlanched_j : (Nat → Int)} (t_v_isBlanched : mA v_isBlanched = v_isBlanched_j) {v_many : (Nat → Int32)} {v_many_j : (Nat → Int)} (t_v_many : mA v_many = v_many_j) {v_second : (Nat → Int32)} {v_second_j : (Nat → Int)} (t_v_second : mA v_second = v_second_j) {v_sort : (Nat → Int32)} {v_sort_j : (Nat → Int)} (t_v_sort : mA v_sort = v_sort_j) {v_sumEnd : (Nat → Int32)} {v_sumEnd_j : (Nat → Int)} (t_v_sumEnd : mA v_sumEnd = v_sumEnd_j) {v_sumFrom : (Nat → Int32)} {v_sumFrom_j : (Nat → Int)} (t_v_sumFrom : mA v_sumFrom = v_sumFrom_j) {v_testEnd : (Nat → Int32)} {v_testEnd_j : (Nat → Int)} (t_v_testEnd : mA v_testEnd = v_testEnd_j) : tl (mP mA (mP mA (mP mA (mP mA (mP mA (mP mA (mP mA (mP mA mA)))))))) (iM_copies N_j a1_j v_coded_j v_codes_j v_first_j v_isBlanched_j v_many_j v_second_j v_sort_j v_sumEnd_j v_sumFrom_j v_testEnd_j) (pM_copies N a1 v_coded v_codes v_first v_isBlanched v_many v_second v_sort v_sumEnd v_sumFrom v_testEnd) := by
  subst t_N
  subst t_a1
  subst t_v_coded
  subst t_v_codes
  subst t_v_first
  subst t_v_isBlanched
  subst t_v_many
  subst t_v_second
  subst t_v_sort
  subst t_v_sumEnd
  subst t_v_sumFrom
  subst t_v_testEnd
  unfold iM_copies pM_copies
  refine tl_gd (jg_ib (Eq.refl (mI a1))) (fun _ => ?_)
  exact (t_pM_copies_b14 (Eq.refl N) (Eq.refl (mI a1)) (Eq.refl (mI v_coded)) (Eq.refl (mA v_codes)) (jupA (Eq.refl (mA v_many)) (jx (Eq.refl (mI a1))) (jrd (Eq.refl (mA v_many)) (jx jlitI_0))) (fun v_first_k1 v_isBlanched_k2 e7_ e8_ e9_ e10_ e11_ => by exact (t_pM_copies_b133 (Eq.refl N) (Eq.refl (mI a1)) (Eq.refl (mI v_coded)) (Eq.refl (mA v_codes)) (Eq.refl (mA v_first_k1)) (Eq.refl (mA v_isBlanched_k2)) (jupA (Eq.refl (mA v_many)) (jx (Eq.refl (mI a1))) (jrd (Eq.refl (mA v_many)) (jx jlitI_0))) (Eq.refl (mA e7_)) (Eq.refl (mA e8_)) (Eq.refl (mA e9_)) (Eq.refl (mA e10_)) (Eq.refl (mA e11_)))) (Eq.refl N) jlitI_0 (Eq.refl (mA v_first)) (Eq.refl (mA v_isBlanched)) (Eq.refl (mA v_second)) (Eq.refl (mA v_sort)) (Eq.refl (mA v_sumEnd)) (Eq.refl (mA v_sumFrom)) (Eq.refl (mA v_testEnd)))
theorem t_pM_clip {a0 : Int64} {a0_j : Int} (t_a0 : mJ a0 = a0_j) : tl (mJ) (iM_clip a0_j) (pM_clip a0) := by
  subst t_a0
  unfold iM_clip pM_clip
  refine tl_ite (jk_le (Eq.refl (mJ a0)) jlitJ_1000000000) ?_ ?_
  · refine tl_ite (jk_ge (Eq.refl (mJ a0)) jlitJ_m1000000000) ?_ ?_
    · exact (tl_some (Eq.refl (mJ a0)))
    · exact (tl_some jlitJ_m1000000000)
  · exact (tl_some jlitJ_1000000000)
theorem t_pM_floor_b43 {a0 : Int64} {a0_j : Int} (t_a0 : mJ a0 = a0_j) {a2 : Int64} {a2_j : Int} (t_a2 : mJ a2 = a2_j) {x4 : Int64} {x4_j : Int} (t_x4 : mJ x4 = x4_j) {s0 : Int32} {s0_j : Int} (t_s0 : mI s0 = s0_j) {s1 : Int32} {s1_j : Int} (t_s1 : mI s1 = s1_j) : tl (mJ) (iM_floor_b43 a0_j a2_j x4_j s0_j s1_j) (pM_floor_b43 a0 a2 x4 s0 s1) := by
  subst t_a0
  subst t_a2
  subst t_x4
  subst t_s0
  subst t_s1
  unfold iM_floor_b43 pM_floor_b43
  refine tl_ite (jc_eq (Eq.refl (mI s0)) (Eq.refl (mI s1))) ?_ ?_
  · exact (tl_some (Eq.refl (mJ x4)))
  · refine tl_g (fun h1 => ?_)
    exact (tl_some (jL_sub (Eq.refl (mJ x4)) jlitJ_1 h1))
theorem t_pM_floor_b32 {a0 : Int64} {a0_j : Int} (t_a0 : mJ a0 = a0_j) {a2 : Int64} {a2_j : Int} (t_a2 : mJ a2 = a2_j) {x4 : Int64} {x4_j : Int} (t_x4 : mJ x4 = x4_j) {s0 : Int32} {s0_j : Int} (t_s0 : mI s0 = s0_j) : tl (mJ) (iM_floor_b32 a0_j a2_j x4_j s0_j) (pM_floor_b32 a0 a2 x4 s0) := by
  subst t_a0
  subst t_a2
  subst t_x4
  subst t_s0
  unfold iM_floor_b32 pM_floor_b32
  refine tl_ite (jk_ge (Eq.refl (mJ a2)) jlitJ_0) ?_ ?_
  · exact (t_pM_floor_b43 (Eq.refl (mJ a0)) (Eq.refl (mJ a2)) (Eq.refl (mJ x4)) (Eq.refl (mI s0)) jlitI_0)
  · exact (t_pM_floor_b43 (Eq.refl (mJ a0)) (Eq.refl (mJ a2)) (Eq.refl (mJ x4)) (Eq.refl (mI s0)) jlitI_1)
theorem t_pM_floor {a0 : Int64} {a0_j : Int} (t_a0 : mJ a0 = a0_j) {a2 : Int64} {a2_j : Int} (t_a2 : mJ a2 = a2_j) : tl (mJ) (iM_floor a0_j a2_j) (pM_floor a0 a2) := by
  subst t_a0
  subst t_a2
  unfold iM_floor pM_floor
  refine tl_ite (jk_eq (Eq.refl (mJ a2)) jlitJ_0) ?_ ?_
  · exact (tl_some jlitJ_0)
  · refine tl_gd (jg_nL (Eq.refl (mJ a2))) (fun _ => ?_)
    refine tl_ite (jk_eq (jL_rem (Eq.refl (mJ a0)) (Eq.refl (mJ a2))) jlitJ_0) ?_ ?_
    · refine tl_g (fun h1 => ?_)
      exact (tl_some (jL_div (Eq.refl (mJ a0)) (Eq.refl (mJ a2)) h1))
    · refine tl_ite (jk_ge (Eq.refl (mJ a0)) jlitJ_0) ?_ ?_
      · refine tl_g (fun h2 => ?_)
        exact (t_pM_floor_b32 (Eq.refl (mJ a0)) (Eq.refl (mJ a2)) (jL_div (Eq.refl (mJ a0)) (Eq.refl (mJ a2)) h2) jlitI_0)
      · refine tl_g (fun h3 => ?_)
        exact (t_pM_floor_b32 (Eq.refl (mJ a0)) (Eq.refl (mJ a2)) (jL_div (Eq.refl (mJ a0)) (Eq.refl (mJ a2)) h3) jlitI_1)
theorem t_pM_puts {a1 : Int64} {a1_j : Int} (t_a1 : mJ a1 = a1_j) {v_piled : Int32} {v_piled_j : Int} (t_v_piled : mI v_piled = v_piled_j) {v_pile : (Nat → Int64)} {v_pile_j : (Nat → Int)} (t_v_pile : mL v_pile = v_pile_j) : tl (mP mI mL) (iM_puts a1_j v_piled_j v_pile_j) (pM_puts a1 v_piled v_pile) := by
  subst t_a1
  subst t_v_piled
  subst t_v_pile
  unfold iM_puts pM_puts
  refine tl_gd (jg_ib (Eq.refl (mI v_piled))) (fun _ => ?_)
  refine tl_g (fun h1 => ?_)
  exact (tl_some (jp2 (ja_add (Eq.refl (mI v_piled)) jlitI_1 h1) (jupL (Eq.refl (mL v_pile)) (jx (Eq.refl (mI v_piled))) (Eq.refl (mJ a1)))))
theorem t_pM_joins_b177 {a1 : Int32} {a1_j : Int} (t_a1 : mI a1 = a1_j) {s1 : Int64} {s1_j : Int} (t_s1 : mJ s1 = s1_j) {v_piled : Int32} {v_piled_j : Int} (t_v_piled : mI v_piled = v_piled_j) {v_pile : (Nat → Int64)} {v_pile_j : (Nat → Int)} (t_v_pile : mL v_pile = v_pile_j) : tl (mP mI mL) (iM_joins_b177 a1_j s1_j v_piled_j v_pile_j) (pM_joins_b177 a1 s1 v_piled v_pile) := by
  subst t_a1
  subst t_s1
  subst t_v_piled
  subst t_v_pile
  unfold iM_joins_b177 pM_joins_b177
  refine tl_bd2 (t_pM_puts (Eq.refl (mJ s1)) (Eq.refl (mI v_piled)) (Eq.refl (mL v_pile))) (fun v_piled_c12 v_pile_c12 => ?_)
  exact (tl_some (jp2 (Eq.refl (mI v_piled_c12)) (Eq.refl (mL v_pile_c12))))
theorem t_pM_joins_b197 {a1 : Int32} {a1_j : Int} (t_a1 : mI a1 = a1_j) {s1 : Int64} {s1_j : Int} (t_s1 : mJ s1 = s1_j) {v_piled : Int32} {v_piled_j : Int} (t_v_piled : mI v_piled = v_piled_j) {v_pile : (Nat → Int64)} {v_pile_j : (Nat → Int)} (t_v_pile : mL v_pile = v_pile_j) : tl (mP mI mL) (iM_joins_b197 a1_j s1_j v_piled_j v_pile_j) (pM_joins_b197 a1 s1 v_piled v_pile) := by
  subst t_a1
  subst t_s1
  subst t_v_piled
  subst t_v_pile
  unfold iM_joins_b197 pM_joins_b197
  refine tl_bd2 (t_pM_puts (Eq.refl (mJ s1)) (Eq.refl (mI v_piled)) (Eq.refl (mL v_pile))) (fun v_piled_c13 v_pile_c13 => ?_)
  exact (tl_some (jp2 (Eq.refl (mI v_piled_c13)) (Eq.refl (mL v_pile_c13))))
theorem t_pM_joins_b216 {a1 : Int32} {a1_j : Int} (t_a1 : mI a1 = a1_j) {s1 : Int64} {s1_j : Int} (t_s1 : mJ s1 = s1_j) {v_piled : Int32} {v_piled_j : Int} (t_v_piled : mI v_piled = v_piled_j) {v_pile : (Nat → Int64)} {v_pile_j : (Nat → Int)} (t_v_pile : mL v_pile = v_pile_j) : tl (mP mI mL) (iM_joins_b216 a1_j s1_j v_piled_j v_pile_j) (pM_joins_b216 a1 s1 v_piled v_pile) := by
  subst t_a1
  subst t_s1
  subst t_v_piled
  subst t_v_pile
  unfold iM_joins_b216 pM_joins_b216
  refine tl_bd2 (t_pM_puts (Eq.refl (mJ s1)) (Eq.refl (mI v_piled)) (Eq.refl (mL v_pile))) (fun v_piled_c14 v_pile_c14 => ?_)
  exact (tl_some (jp2 (Eq.refl (mI v_piled_c14)) (Eq.refl (mL v_pile_c14))))
theorem t_pM_joins_b235 {a1 : Int32} {a1_j : Int} (t_a1 : mI a1 = a1_j) {s1 : Int64} {s1_j : Int} (t_s1 : mJ s1 = s1_j) {v_piled : Int32} {v_piled_j : Int} (t_v_piled : mI v_piled = v_piled_j) {v_pile : (Nat → Int64)} {v_pile_j : (Nat → Int)} (t_v_pile : mL v_pile = v_pile_j) : tl (mP mI mL) (iM_joins_b235 a1_j s1_j v_piled_j v_pile_j) (pM_joins_b235 a1 s1 v_piled v_pile) := by
  subst t_a1
  subst t_s1
  subst t_v_piled
  subst t_v_pile
  unfold iM_joins_b235 pM_joins_b235
  refine tl_bd2 (t_pM_puts (Eq.refl (mJ s1)) (Eq.refl (mI v_piled)) (Eq.refl (mL v_pile))) (fun v_piled_c15 v_pile_c15 => ?_)
  exact (tl_some (jp2 (Eq.refl (mI v_piled_c15)) (Eq.refl (mL v_pile_c15))))
theorem t_pM_joins_b254 {a1 : Int32} {a1_j : Int} (t_a1 : mI a1 = a1_j) {s1 : Int64} {s1_j : Int} (t_s1 : mJ s1 = s1_j) {v_piled : Int32} {v_piled_j : Int} (t_v_piled : mI v_piled = v_piled_j) {v_pile : (Nat → Int64)} {v_pile_j : (Nat → Int)} (t_v_pile : mL v_pile = v_pile_j) : tl (mP mI mL) (iM_joins_b254 a1_j s1_j v_piled_j v_pile_j) (pM_joins_b254 a1 s1 v_piled v_pile) := by
  subst t_a1
  subst t_s1
  subst t_v_piled
  subst t_v_pile
  unfold iM_joins_b254 pM_joins_b254
  refine tl_bd2 (t_pM_puts (Eq.refl (mJ s1)) (Eq.refl (mI v_piled)) (Eq.refl (mL v_pile))) (fun v_piled_c16 v_pile_c16 => ?_)
  exact (tl_some (jp2 (Eq.refl (mI v_piled_c16)) (Eq.refl (mL v_pile_c16))))
theorem t_pM_joins_b286 {a1 : Int32} {a1_j : Int} (t_a1 : mI a1 = a1_j) {s1 : Int64} {s1_j : Int} (t_s1 : mJ s1 = s1_j) {v_piled : Int32} {v_piled_j : Int} (t_v_piled : mI v_piled = v_piled_j) {v_pile : (Nat → Int64)} {v_pile_j : (Nat → Int)} (t_v_pile : mL v_pile = v_pile_j) : tl (mP mI mL) (iM_joins_b286 a1_j s1_j v_piled_j v_pile_j) (pM_joins_b286 a1 s1 v_piled v_pile) := by
  subst t_a1
  subst t_s1
  subst t_v_piled
  subst t_v_pile
  unfold iM_joins_b286 pM_joins_b286
  refine tl_bd2 (t_pM_puts (Eq.refl (mJ s1)) (Eq.refl (mI v_piled)) (Eq.refl (mL v_pile))) (fun v_piled_c17 v_pile_c17 => ?_)
  exact (tl_some (jp2 (Eq.refl (mI v_piled_c17)) (Eq.refl (mL v_pile_c17))))
theorem t_pM_joins {a1 : Int32} {a1_j : Int} (t_a1 : mI a1 = a1_j) {v_piled : Int32} {v_piled_j : Int} (t_v_piled : mI v_piled = v_piled_j) {v_pile : (Nat → Int64)} {v_pile_j : (Nat → Int)} (t_v_pile : mL v_pile = v_pile_j) : tl (mP mI mL) (iM_joins a1_j v_piled_j v_pile_j) (pM_joins a1 v_piled v_pile) := by
  subst t_a1
  subst t_v_piled
  subst t_v_pile
  unfold iM_joins pM_joins
  refine tl_g (fun h1 => ?_)
  refine tl_gd (jg_ib (ja_sub (Eq.refl (mI v_piled)) jlitI_1 h1)) (fun _ => ?_)
  refine tl_g (fun h2 => ?_)
  refine tl_gd (jg_ib (ja_sub (Eq.refl (mI v_piled)) jlitI_2 h2)) (fun _ => ?_)
  refine tl_ite (jc_eq (Eq.refl (mI a1)) jlitI_1) ?_ ?_
  · refine tl_g (fun h3 => ?_)
    refine tl_bd1 (t_pM_clip (jL_add (jrdL (Eq.refl (mL v_pile)) (jx (ja_sub (Eq.refl (mI v_piled)) jlitI_2 h2))) (jrdL (Eq.refl (mL v_pile)) (jx (ja_sub (Eq.refl (mI v_piled)) jlitI_1 h1))) h3)) (fun rc3 => ?_)
    refine tl_bd2 (t_pM_puts (Eq.refl (mJ rc3)) (ja_sub (Eq.refl (mI v_piled)) jlitI_2 h2) (Eq.refl (mL v_pile))) (fun v_piled_c4 v_pile_c4 => ?_)
    exact (tl_some (jp2 (Eq.refl (mI v_piled_c4)) (Eq.refl (mL v_pile_c4))))
  · refine tl_ite (jc_eq (Eq.refl (mI a1)) jlitI_2) ?_ ?_
    · refine tl_g (fun h4 => ?_)
      refine tl_bd1 (t_pM_clip (jL_sub (jrdL (Eq.refl (mL v_pile)) (jx (ja_sub (Eq.refl (mI v_piled)) jlitI_2 h2))) (jrdL (Eq.refl (mL v_pile)) (jx (ja_sub (Eq.refl (mI v_piled)) jlitI_1 h1))) h4)) (fun rc5 => ?_)
      refine tl_bd2 (t_pM_puts (Eq.refl (mJ rc5)) (ja_sub (Eq.refl (mI v_piled)) jlitI_2 h2) (Eq.refl (mL v_pile))) (fun v_piled_c6 v_pile_c6 => ?_)
      exact (tl_some (jp2 (Eq.refl (mI v_piled_c6)) (Eq.refl (mL v_pile_c6))))
    · refine tl_ite (jc_eq (Eq.refl (mI a1)) jlitI_3) ?_ ?_
      · refine tl_g (fun h5 => ?_)
        refine tl_bd1 (t_pM_clip (jL_mul (jrdL (Eq.refl (mL v_pile)) (jx (ja_sub (Eq.refl (mI v_piled)) jlitI_2 h2))) (jrdL (Eq.refl (mL v_pile)) (jx (ja_sub (Eq.refl (mI v_piled)) jlitI_1 h1))) h5)) (fun rc7 => ?_)
        refine tl_bd2 (t_pM_puts (Eq.refl (mJ rc7)) (ja_sub (Eq.refl (mI v_piled)) jlitI_2 h2) (Eq.refl (mL v_pile))) (fun v_piled_c8 v_pile_c8 => ?_)
        exact (tl_some (jp2 (Eq.refl (mI v_piled_c8)) (Eq.refl (mL v_pile_c8))))
      · refine tl_ite (jc_eq (Eq.refl (mI a1)) jlitI_4) ?_ ?_
        · refine tl_bd1 (t_pM_floor (jrdL (Eq.refl (mL v_pile)) (jx (ja_sub (Eq.refl (mI v_piled)) jlitI_2 h2))) (jrdL (Eq.refl (mL v_pile)) (jx (ja_sub (Eq.refl (mI v_piled)) jlitI_1 h1)))) (fun rc9 => ?_)
          refine tl_bd2 (t_pM_puts (Eq.refl (mJ rc9)) (ja_sub (Eq.refl (mI v_piled)) jlitI_2 h2) (Eq.refl (mL v_pile))) (fun v_piled_c10 v_pile_c10 => ?_)
          exact (tl_some (jp2 (Eq.refl (mI v_piled_c10)) (Eq.refl (mL v_pile_c10))))
        · refine tl_ite (jc_eq (Eq.refl (mI a1)) jlitI_5) ?_ ?_
          · refine tl_ite (jk_ge (jrdL (Eq.refl (mL v_pile)) (jx (ja_sub (Eq.refl (mI v_piled)) jlitI_2 h2))) (jrdL (Eq.refl (mL v_pile)) (jx (ja_sub (Eq.refl (mI v_piled)) jlitI_1 h1)))) ?_ ?_
            · exact (t_pM_joins_b177 (Eq.refl (mI a1)) (jrdL (Eq.refl (mL v_pile)) (jx (ja_sub (Eq.refl (mI v_piled)) jlitI_1 h1))) (ja_sub (Eq.refl (mI v_piled)) jlitI_2 h2) (Eq.refl (mL v_pile)))
            · exact (t_pM_joins_b177 (Eq.refl (mI a1)) (jrdL (Eq.refl (mL v_pile)) (jx (ja_sub (Eq.refl (mI v_piled)) jlitI_2 h2))) (ja_sub (Eq.refl (mI v_piled)) jlitI_2 h2) (Eq.refl (mL v_pile)))
          · refine tl_ite (jc_eq (Eq.refl (mI a1)) jlitI_6) ?_ ?_
            · refine tl_ite (jk_le (jrdL (Eq.refl (mL v_pile)) (jx (ja_sub (Eq.refl (mI v_piled)) jlitI_2 h2))) (jrdL (Eq.refl (mL v_pile)) (jx (ja_sub (Eq.refl (mI v_piled)) jlitI_1 h1)))) ?_ ?_
              · exact (t_pM_joins_b197 (Eq.refl (mI a1)) (jrdL (Eq.refl (mL v_pile)) (jx (ja_sub (Eq.refl (mI v_piled)) jlitI_1 h1))) (ja_sub (Eq.refl (mI v_piled)) jlitI_2 h2) (Eq.refl (mL v_pile)))
              · exact (t_pM_joins_b197 (Eq.refl (mI a1)) (jrdL (Eq.refl (mL v_pile)) (jx (ja_sub (Eq.refl (mI v_piled)) jlitI_2 h2))) (ja_sub (Eq.refl (mI v_piled)) jlitI_2 h2) (Eq.refl (mL v_pile)))
            · refine tl_ite (jc_eq (Eq.refl (mI a1)) jlitI_11) ?_ ?_
              · refine tl_ite (jk_ge (jrdL (Eq.refl (mL v_pile)) (jx (ja_sub (Eq.refl (mI v_piled)) jlitI_2 h2))) (jrdL (Eq.refl (mL v_pile)) (jx (ja_sub (Eq.refl (mI v_piled)) jlitI_1 h1)))) ?_ ?_
                · exact (t_pM_joins_b216 (Eq.refl (mI a1)) jlitJ_0 (ja_sub (Eq.refl (mI v_piled)) jlitI_2 h2) (Eq.refl (mL v_pile)))
                · exact (t_pM_joins_b216 (Eq.refl (mI a1)) jlitJ_1 (ja_sub (Eq.refl (mI v_piled)) jlitI_2 h2) (Eq.refl (mL v_pile)))
              · refine tl_ite (jc_eq (Eq.refl (mI a1)) jlitI_12) ?_ ?_
                · refine tl_ite (jk_le (jrdL (Eq.refl (mL v_pile)) (jx (ja_sub (Eq.refl (mI v_piled)) jlitI_2 h2))) (jrdL (Eq.refl (mL v_pile)) (jx (ja_sub (Eq.refl (mI v_piled)) jlitI_1 h1)))) ?_ ?_
                  · exact (t_pM_joins_b235 (Eq.refl (mI a1)) jlitJ_0 (ja_sub (Eq.refl (mI v_piled)) jlitI_2 h2) (Eq.refl (mL v_pile)))
                  · exact (t_pM_joins_b235 (Eq.refl (mI a1)) jlitJ_1 (ja_sub (Eq.refl (mI v_piled)) jlitI_2 h2) (Eq.refl (mL v_pile)))
                · refine tl_ite (jc_eq (Eq.refl (mI a1)) jlitI_13) ?_ ?_
                  · refine tl_ite (jk_eq (jrdL (Eq.refl (mL v_pile)) (jx (ja_sub (Eq.refl (mI v_piled)) jlitI_2 h2))) (jrdL (Eq.refl (mL v_pile)) (jx (ja_sub (Eq.refl (mI v_piled)) jlitI_1 h1)))) ?_ ?_
                    · exact (t_pM_joins_b254 (Eq.refl (mI a1)) jlitJ_1 (ja_sub (Eq.refl (mI v_piled)) jlitI_2 h2) (Eq.refl (mL v_pile)))
                    · exact (t_pM_joins_b254 (Eq.refl (mI a1)) jlitJ_0 (ja_sub (Eq.refl (mI v_piled)) jlitI_2 h2) (Eq.refl (mL v_pile)))
                  · refine tl_ite (jc_eq (Eq.refl (mI a1)) jlitI_14) ?_ ?_
                    · refine tl_g (fun h6 => ?_)
                      refine tl_bd2 (t_pM_puts (jL_mul (jrdL (Eq.refl (mL v_pile)) (jx (ja_sub (Eq.refl (mI v_piled)) jlitI_2 h2))) (jrdL (Eq.refl (mL v_pile)) (jx (ja_sub (Eq.refl (mI v_piled)) jlitI_1 h1))) h6) (ja_sub (Eq.refl (mI v_piled)) jlitI_2 h2) (Eq.refl (mL v_pile))) (fun v_piled_c11 v_pile_c11 => ?_)
                      exact (tl_some (jp2 (Eq.refl (mI v_piled_c11)) (Eq.refl (mL v_pile_c11))))
                    · refine tl_g (fun h7 => ?_)
                      refine tl_ite (jk_le (jL_add (jrdL (Eq.refl (mL v_pile)) (jx (ja_sub (Eq.refl (mI v_piled)) jlitI_2 h2))) (jrdL (Eq.refl (mL v_pile)) (jx (ja_sub (Eq.refl (mI v_piled)) jlitI_1 h1))) h7) jlitJ_0) ?_ ?_
                      · exact (t_pM_joins_b286 (Eq.refl (mI a1)) jlitJ_0 (ja_sub (Eq.refl (mI v_piled)) jlitI_2 h2) (Eq.refl (mL v_pile)))
                      · exact (t_pM_joins_b286 (Eq.refl (mI a1)) jlitJ_1 (ja_sub (Eq.refl (mI v_piled)) jlitI_2 h2) (Eq.refl (mL v_pile)))
theorem t_pM_tells_b76 {N N_j : Nat} (t_N : N = N_j) {a1 : Int32} {a1_j : Int} (t_a1 : mI a1 = a1_j) {a2 : Int32} {a2_j : Int} (t_a2 : mI a2 = a2_j) {a3 : Int32} {a3_j : Int} (t_a3 : mI a3 = a3_j) {v_debt : Int64} {v_debt_j : Int} (t_v_debt : mJ v_debt = v_debt_j) {v_now : Int32} {v_now_j : Int} (t_v_now : mI v_now = v_now_j) {v_paid : Int64} {v_paid_j : Int} (t_v_paid : mJ v_paid = v_paid_j) {v_shireNow : Int32} {v_shireNow_j : Int} (t_v_shireNow : mI v_shireNow = v_shireNow_j) {v_codes : (Nat → Int32)} {v_codes_j : (Nat → Int)} (t_v_codes : mA v_codes = v_codes_j) {self : Int32 → Int32 → (Nat → Int64) → Option R_pM_tells} {self_j : Int → Int → (Nat → Int) → Option R_iM_tells} (t_self : ∀ (q0_ : Int32) (q1_ : Int32) (q2_ : (Nat → Int64)), tl (mP mJ (mP mI mL)) (self_j (mI q0_) (mI q1_) (mL q2_)) (self q0_ q1_ q2_)) {x4 : Int32} {x4_j : Int} (t_x4 : mI x4 = x4_j) {s1 : Int64} {s1_j : Int} (t_s1 : mJ s1 = s1_j) {v_piled : Int32} {v_piled_j : Int} (t_v_piled : mI v_piled = v_piled_j) {v_pile : (Nat → Int64)} {v_pile_j : (Nat → Int)} (t_v_pile : mL v_pile = v_pile_j) : tl (mP mJ (mP mI mL)) (iM_tells_b76 N_j a1_j a2_j a3_j v_debt_j v_now_j v_paid_j v_shireNow_j v_codes_j self_j x4_j s1_j v_piled_j v_pile_j) (pM_tells_b76 N a1 a2 a3 v_debt v_now v_paid v_shireNow v_codes self x4 s1 v_piled v_pile) := by
  subst t_N
  subst t_a1
  subst t_a2
  subst t_a3
  subst t_v_debt
  subst t_v_now
  subst t_v_paid
  subst t_v_shireNow
  subst t_v_codes
  subst t_x4
  subst t_s1
  subst t_v_piled
  subst t_v_pile
  unfold iM_tells_b76 pM_tells_b76
  refine tl_bd2 (t_pM_puts (Eq.refl (mJ s1)) (Eq.refl (mI v_piled)) (Eq.refl (mL v_pile))) (fun v_piled_c12 v_pile_c12 => ?_)
  refine tl_g (fun h1 => ?_)
  exact (tl_e3 (ja_add (Eq.refl (mI x4)) jlitI_1 h1) (Eq.refl (mI v_piled_c12)) (Eq.refl (mL v_pile_c12)) (t_self _ _ _))
theorem t_pM_tells_b8_F {N N_j : Nat} (t_N : N = N_j) {a1 : Int32} {a1_j : Int} (t_a1 : mI a1 = a1_j) {a2 : Int32} {a2_j : Int} (t_a2 : mI a2 = a2_j) {a3 : Int32} {a3_j : Int} (t_a3 : mI a3 = a3_j) {v_debt : Int64} {v_debt_j : Int} (t_v_debt : mJ v_debt = v_debt_j) {v_now : Int32} {v_now_j : Int} (t_v_now : mI v_now = v_now_j) {v_paid : Int64} {v_paid_j : Int} (t_v_paid : mJ v_paid = v_paid_j) {v_shireNow : Int32} {v_shireNow_j : Int} (t_v_shireNow : mI v_shireNow = v_shireNow_j) {v_codes : (Nat → Int32)} {v_codes_j : (Nat → Int)} (t_v_codes : mA v_codes = v_codes_j) {self : Int32 → Int32 → (Nat → Int64) → Option R_pM_tells} {self_j : Int → Int → (Nat → Int) → Option R_iM_tells} (t_self : ∀ (q0_ : Int32) (q1_ : Int32) (q2_ : (Nat → Int64)), tl (mP mJ (mP mI mL)) (self_j (mI q0_) (mI q1_) (mL q2_)) (self q0_ q1_ q2_)) {x4 : Int32} {x4_j : Int} (t_x4 : mI x4 = x4_j) {v_piled : Int32} {v_piled_j : Int} (t_v_piled : mI v_piled = v_piled_j) {v_pile : (Nat → Int64)} {v_pile_j : (Nat → Int)} (t_v_pile : mL v_pile = v_pile_j) : tl (mP mJ (mP mI mL)) (iM_tells_b8_F N_j a1_j a2_j a3_j v_debt_j v_now_j v_paid_j v_shireNow_j v_codes_j self_j x4_j v_piled_j v_pile_j) (pM_tells_b8_F N a1 a2 a3 v_debt v_now v_paid v_shireNow v_codes self x4 v_piled v_pile) := by
  subst t_N
  subst t_a1
  subst t_a2
  subst t_a3
  subst t_v_debt
  subst t_v_now
  subst t_v_paid
  subst t_v_shireNow
  subst t_v_codes
  subst t_x4
  subst t_v_piled
  subst t_v_pile
  unfold iM_tells_b8_F pM_tells_b8_F
  refine tl_ite (jc_le (Eq.refl (mI a3)) (Eq.refl (mI x4))) ?_ ?_
  · exact (tl_some (jp2 (jrdL (Eq.refl (mL v_pile)) (jx jlitI_0)) (jp2 (Eq.refl (mI v_piled)) (Eq.refl (mL v_pile)))))
  · refine tl_g (fun h1 => ?_)
    refine tl_g (fun h2 => ?_)
    refine tl_gd (jg_ib (ja_add (ja_mul jlitI_640 (Eq.refl (mI a1)) h1) (Eq.refl (mI x4)) h2)) (fun _ => ?_)
    refine tl_ite (jc_lt (jrd (Eq.refl (mA v_codes)) (jx (ja_add (ja_mul jlitI_640 (Eq.refl (mI a1)) h1) (Eq.refl (mI x4)) h2))) jlitI_1000) ?_ ?_
    · refine tl_ite (jc_lt (jrd (Eq.refl (mA v_codes)) (jx (ja_add (ja_mul jlitI_640 (Eq.refl (mI a1)) h1) (Eq.refl (mI x4)) h2))) jlitI_100) ?_ ?_
      · refine tl_ite (jc_eq (jrd (Eq.refl (mA v_codes)) (jx (ja_add (ja_mul jlitI_640 (Eq.refl (mI a1)) h1) (Eq.refl (mI x4)) h2))) jlitI_7) ?_ ?_
        · refine tl_bd2 (t_pM_puts (ja_i2l (Eq.refl (mI v_now))) (Eq.refl (mI v_piled)) (Eq.refl (mL v_pile))) (fun v_piled_c10 v_pile_c10 => ?_)
          refine tl_g (fun h3 => ?_)
          exact (tl_e3 (ja_add (Eq.refl (mI x4)) jlitI_1 h3) (Eq.refl (mI v_piled_c10)) (Eq.refl (mL v_pile_c10)) (t_self _ _ _))
        · refine tl_ite (jc_eq (jrd (Eq.refl (mA v_codes)) (jx (ja_add (ja_mul jlitI_640 (Eq.refl (mI a1)) h1) (Eq.refl (mI x4)) h2))) jlitI_8) ?_ ?_
          · refine tl_g (fun h4 => ?_)
            refine tl_bd2 (t_pM_puts (ja_i2l (ja_div (Eq.refl (mI v_now)) jlitI_2 h4)) (Eq.refl (mI v_piled)) (Eq.refl (mL v_pile))) (fun v_piled_c9 v_pile_c9 => ?_)
            refine tl_g (fun h5 => ?_)
            exact (tl_e3 (ja_add (Eq.refl (mI x4)) jlitI_1 h5) (Eq.refl (mI v_piled_c9)) (Eq.refl (mL v_pile_c9)) (t_self _ _ _))
          · refine tl_ite (jc_eq (jrd (Eq.refl (mA v_codes)) (jx (ja_add (ja_mul jlitI_640 (Eq.refl (mI a1)) h1) (Eq.refl (mI x4)) h2))) jlitI_9) ?_ ?_
            · refine tl_bd1 (t_pM_clip (Eq.refl (mJ v_debt))) (fun rc7 => ?_)
              refine tl_bd2 (t_pM_puts (Eq.refl (mJ rc7)) (Eq.refl (mI v_piled)) (Eq.refl (mL v_pile))) (fun v_piled_c8 v_pile_c8 => ?_)
              refine tl_g (fun h6 => ?_)
              exact (tl_e3 (ja_add (Eq.refl (mI x4)) jlitI_1 h6) (Eq.refl (mI v_piled_c8)) (Eq.refl (mL v_pile_c8)) (t_self _ _ _))
            · refine tl_ite (jc_eq (jrd (Eq.refl (mA v_codes)) (jx (ja_add (ja_mul jlitI_640 (Eq.refl (mI a1)) h1) (Eq.refl (mI x4)) h2))) jlitI_10) ?_ ?_
              · refine tl_bd1 (t_pM_clip (Eq.refl (mJ v_paid))) (fun rc5 => ?_)
                refine tl_bd2 (t_pM_puts (Eq.refl (mJ rc5)) (Eq.refl (mI v_piled)) (Eq.refl (mL v_pile))) (fun v_piled_c6 v_pile_c6 => ?_)
                refine tl_g (fun h7 => ?_)
                exact (tl_e3 (ja_add (Eq.refl (mI x4)) jlitI_1 h7) (Eq.refl (mI v_piled_c6)) (Eq.refl (mL v_pile_c6)) (t_self _ _ _))
              · refine tl_ite (jc_eq (jrd (Eq.refl (mA v_codes)) (jx (ja_add (ja_mul jlitI_640 (Eq.refl (mI a1)) h1) (Eq.refl (mI x4)) h2))) jlitI_17) ?_ ?_
                · refine tl_bd2 (t_pM_puts jlitJ_1 (Eq.refl (mI v_piled)) (Eq.refl (mL v_pile))) (fun v_piled_c4 v_pile_c4 => ?_)
                  refine tl_g (fun h8 => ?_)
                  exact (tl_e3 (ja_add (Eq.refl (mI x4)) jlitI_1 h8) (Eq.refl (mI v_piled_c4)) (Eq.refl (mL v_pile_c4)) (t_self _ _ _))
                · refine tl_ite (jc_eq (jrd (Eq.refl (mA v_codes)) (jx (ja_add (ja_mul jlitI_640 (Eq.refl (mI a1)) h1) (Eq.refl (mI x4)) h2))) jlitI_16) ?_ ?_
                  · refine tl_g (fun h9 => ?_)
                    refine tl_gd (jg_ib (ja_sub (Eq.refl (mI v_piled)) jlitI_1 h9)) (fun _ => ?_)
                    refine tl_g (fun h10 => ?_)
                    refine tl_g (fun h11 => ?_)
                    exact (tl_e3 (ja_add (Eq.refl (mI x4)) jlitI_1 h10) (Eq.refl (mI v_piled)) (jupL (Eq.refl (mL v_pile)) (jx (ja_sub (Eq.refl (mI v_piled)) jlitI_1 h9)) (jL_sub jlitJ_1 (jrdL (Eq.refl (mL v_pile)) (jx (ja_sub (Eq.refl (mI v_piled)) jlitI_1 h9))) h11)) (t_self _ _ _))
                  · refine tl_bd2 (t_pM_joins (jrd (Eq.refl (mA v_codes)) (jx (ja_add (ja_mul jlitI_640 (Eq.refl (mI a1)) h1) (Eq.refl (mI x4)) h2))) (Eq.refl (mI v_piled)) (Eq.refl (mL v_pile))) (fun v_piled_c2 v_pile_c2 => ?_)
                    refine tl_g (fun h12 => ?_)
                    exact (tl_e3 (ja_add (Eq.refl (mI x4)) jlitI_1 h12) (Eq.refl (mI v_piled_c2)) (Eq.refl (mL v_pile_c2)) (t_self _ _ _))
      · refine tl_g (fun h13 => ?_)
        refine tl_ite (jc_eq (ja_sub (jrd (Eq.refl (mA v_codes)) (jx (ja_add (ja_mul jlitI_640 (Eq.refl (mI a1)) h1) (Eq.refl (mI x4)) h2))) jlitI_100 h13) (Eq.refl (mI v_shireNow))) ?_ ?_
        · exact (t_pM_tells_b76 (Eq.refl N) (Eq.refl (mI a1)) (Eq.refl (mI a2)) (Eq.refl (mI a3)) (Eq.refl (mJ v_debt)) (Eq.refl (mI v_now)) (Eq.refl (mJ v_paid)) (Eq.refl (mI v_shireNow)) (Eq.refl (mA v_codes)) t_self (Eq.refl (mI x4)) jlitJ_1 (Eq.refl (mI v_piled)) (Eq.refl (mL v_pile)))
        · exact (t_pM_tells_b76 (Eq.refl N) (Eq.refl (mI a1)) (Eq.refl (mI a2)) (Eq.refl (mI a3)) (Eq.refl (mJ v_debt)) (Eq.refl (mI v_now)) (Eq.refl (mJ v_paid)) (Eq.refl (mI v_shireNow)) (Eq.refl (mA v_codes)) t_self (Eq.refl (mI x4)) jlitJ_0 (Eq.refl (mI v_piled)) (Eq.refl (mL v_pile)))
    · refine tl_g (fun h14 => ?_)
      refine tl_bd2 (t_pM_puts (ja_i2l (ja_sub (jrd (Eq.refl (mA v_codes)) (jx (ja_add (ja_mul jlitI_640 (Eq.refl (mI a1)) h1) (Eq.refl (mI x4)) h2))) jlitI_1000 h14)) (Eq.refl (mI v_piled)) (Eq.refl (mL v_pile))) (fun v_piled_c11 v_pile_c11 => ?_)
      refine tl_g (fun h15 => ?_)
      exact (tl_e3 (ja_add (Eq.refl (mI x4)) jlitI_1 h15) (Eq.refl (mI v_piled_c11)) (Eq.refl (mL v_pile_c11)) (t_self _ _ _))
theorem t_pM_tells_b8 {N N_j : Nat} (t_N : N = N_j) {a1 : Int32} {a1_j : Int} (t_a1 : mI a1 = a1_j) {a2 : Int32} {a2_j : Int} (t_a2 : mI a2 = a2_j) {a3 : Int32} {a3_j : Int} (t_a3 : mI a3 = a3_j) {v_debt : Int64} {v_debt_j : Int} (t_v_debt : mJ v_debt = v_debt_j) {v_now : Int32} {v_now_j : Int} (t_v_now : mI v_now = v_now_j) {v_paid : Int64} {v_paid_j : Int} (t_v_paid : mJ v_paid = v_paid_j) {v_shireNow : Int32} {v_shireNow_j : Int} (t_v_shireNow : mI v_shireNow = v_shireNow_j) {v_codes : (Nat → Int32)} {v_codes_j : (Nat → Int)} (t_v_codes : mA v_codes = v_codes_j) {n n_j : Nat} (t_n : n = n_j) {w0_ : Int32} {w0__j : Int} (t_w0_ : mI w0_ = w0__j) {w1_ : Int32} {w1__j : Int} (t_w1_ : mI w1_ = w1__j) {w2_ : (Nat → Int64)} {w2__j : (Nat → Int)} (t_w2_ : mL w2_ = w2__j) : tl (mP mJ (mP mI mL)) (iM_tells_b8 N_j a1_j a2_j a3_j v_debt_j v_now_j v_paid_j v_shireNow_j v_codes_j n_j w0__j w1__j w2__j) (pM_tells_b8 N a1 a2 a3 v_debt v_now v_paid v_shireNow v_codes n w0_ w1_ w2_) := by
  subst t_N
  subst t_a1
  subst t_a2
  subst t_a3
  subst t_v_debt
  subst t_v_now
  subst t_v_paid
  subst t_v_shireNow
  subst t_v_codes
  subst t_n
  subst t_w0_
  subst t_w1_
  subst t_w2_
  exact tl_zlp3 (fun s2 s hs w0_ w1_ w2_ => t_pM_tells_b8_F (Eq.refl N) (Eq.refl (mI a1)) (Eq.refl (mI a2)) (Eq.refl (mI a3)) (Eq.refl (mJ v_debt)) (Eq.refl (mI v_now)) (Eq.refl (mJ v_paid)) (Eq.refl (mI v_shireNow)) (Eq.refl (mA v_codes)) hs (Eq.refl (mI w0_)) (Eq.refl (mI w1_)) (Eq.refl (mL w2_))) n w0_ w1_ w2_
theorem t_pM_tells {N N_j : Nat} (t_N : N = N_j) {a1 : Int32} {a1_j : Int} (t_a1 : mI a1 = a1_j) {a2 : Int32} {a2_j : Int} (t_a2 : mI a2 = a2_j) {a3 : Int32} {a3_j : Int} (t_a3 : mI a3 = a3_j) {v_debt : Int64} {v_debt_j : Int} (t_v_debt : mJ v_debt = v_debt_j) {v_now : Int32} {v_now_j : Int} (t_v_now : mI v_now = v_now_j) {v_paid : Int64} {v_paid_j : Int} (t_v_paid : mJ v_paid = v_paid_j) {v_piled : Int32} {v_piled_j : Int} (t_v_piled : mI v_piled = v_piled_j) {v_shireNow : Int32} {v_shireNow_j : Int} (t_v_shireNow : mI v_shireNow = v_shireNow_j) {v_codes : (Nat → Int32)} {v_codes_j : (Nat → Int)} (t_v_codes : mA v_codes = v_codes_j) {v_pile : (Nat → Int64)} {v_pile_j : (Nat → Int)} (t_v_pile : mL v_pile = v_pile_j) : tl (mP mJ (mP mI mL)) (iM_tells N_j a1_j a2_j a3_j v_debt_j v_now_j v_paid_j v_piled_j v_shireNow_j v_codes_j v_pile_j) (pM_tells N a1 a2 a3 v_debt v_now v_paid v_piled v_shireNow v_codes v_pile) := by
  subst t_N
  subst t_a1
  subst t_a2
  subst t_a3
  subst t_v_debt
  subst t_v_now
  subst t_v_paid
  subst t_v_piled
  subst t_v_shireNow
  subst t_v_codes
  subst t_v_pile
  unfold iM_tells pM_tells
  exact (t_pM_tells_b8 (Eq.refl N) (Eq.refl (mI a1)) (Eq.refl (mI a2)) (Eq.refl (mI a3)) (Eq.refl (mJ v_debt)) (Eq.refl (mI v_now)) (Eq.refl (mJ v_paid)) (Eq.refl (mI v_shireNow)) (Eq.refl (mA v_codes)) (Eq.refl N) (Eq.refl (mI a2)) jlitI_0 (Eq.refl (mL v_pile)))
theorem t_pM_isTerm {a0 : Int32} {a0_j : Int} (t_a0 : mI a0 = a0_j) : tl (mI) (iM_isTerm a0_j) (pM_isTerm a0) := by
  subst t_a0
  unfold iM_isTerm pM_isTerm
  refine tl_bd1 (t_pM_isIn (ja_i2l (Eq.refl (mI a0))) jlitJ_0 jlitJ_39) (fun rc1 => ?_)
  refine tl_gd (jg_isB (Eq.refl (mI rc1))) (fun _ => ?_)
  exact (tl_some (Eq.refl (mI rc1)))
theorem t_pM_isShire {a0 : Int32} {a0_j : Int} (t_a0 : mI a0 = a0_j) : tl (mI) (iM_isShire a0_j) (pM_isShire a0) := by
  subst t_a0
  unfold iM_isShire pM_isShire
  refine tl_bd1 (t_pM_isIn (ja_i2l (Eq.refl (mI a0))) jlitJ_0 jlitJ_7) (fun rc1 => ?_)
  refine tl_gd (jg_isB (Eq.refl (mI rc1))) (fun _ => ?_)
  exact (tl_some (Eq.refl (mI rc1)))
theorem t_pM_act {a1 : Int32} {a1_j : Int} (t_a1 : mI a1 = a1_j) {a2 : Int32} {a2_j : Int} (t_a2 : mI a2 = a2_j) {a3 : Int32} {a3_j : Int} (t_a3 : mI a3 = a3_j) {a4 : Int32} {a4_j : Int} (t_a4 : mI a4 = a4_j) {v_acts : Int32} {v_acts_j : Int} (t_v_acts : mI v_acts = v_acts_j) {v_actKind : (Nat → Int32)} {v_actKind_j : (Nat → Int)} (t_v_actKind : mA v_actKind = v_actKind_j) {v_actNumber : (Nat → Int32)} {v_actNumber_j : (Nat → Int)} (t_v_actNumber : mA v_actNumber = v_actNumber_j) {v_actShire : (Nat → Int32)} {v_actShire_j : (Nat → Int)} (t_v_actShire : mA v_actShire = v_actShire_j) {v_actTerm : (Nat → Int32)} {v_actTerm_j : (Nat → Int)} (t_v_actTerm : mA v_actTerm = v_actTerm_j) {v_voidAt : (Nat → Int32)} {v_voidAt_j : (Nat → Int)} (t_v_voidAt : mA v_voidAt = v_voidAt_j) : tl (mP mI (mP mI (mP mA (mP mA (mP mA (mP mA mA)))))) (iM_act a1_j a2_j a3_j a4_j v_acts_j v_actKind_j v_actNumber_j v_actShire_j v_actTerm_j v_voidAt_j) (pM_act a1 a2 a3 a4 v_acts v_actKind v_actNumber v_actShire v_actTerm v_voidAt) := by
  subst t_a1
  subst t_a2
  subst t_a3
  subst t_a4
  subst t_v_acts
  subst t_v_actKind
  subst t_v_actNumber
  subst t_v_actShire
  subst t_v_actTerm
  subst t_v_voidAt
  unfold iM_act pM_act
  refine tl_ite (jc_eq (Eq.refl (mI v_acts)) jlitI_200) ?_ ?_
  · exact (tl_some (jp2 jlitI_m1 (jp2 (Eq.refl (mI v_acts)) (jp2 (Eq.refl (mA v_actKind)) (jp2 (Eq.refl (mA v_actNumber)) (jp2 (Eq.refl (mA v_actShire)) (jp2 (Eq.refl (mA v_actTerm)) (Eq.refl (mA v_voidAt)))))))))
  · refine tl_g (fun h1 => ?_)
    refine tl_gd (jg_ib (ja_add (Eq.refl (mI v_acts)) jlitI_1 h1)) (fun _ => ?_)
    exact (tl_some (jp2 (ja_add (Eq.refl (mI v_acts)) jlitI_1 h1) (jp2 (ja_add (Eq.refl (mI v_acts)) jlitI_1 h1) (jp2 (jupA (Eq.refl (mA v_actKind)) (jx (ja_add (Eq.refl (mI v_acts)) jlitI_1 h1)) (Eq.refl (mI a1))) (jp2 (jupA (Eq.refl (mA v_actNumber)) (jx (ja_add (Eq.refl (mI v_acts)) jlitI_1 h1)) (Eq.refl (mI a4))) (jp2 (jupA (Eq.refl (mA v_actShire)) (jx (ja_add (Eq.refl (mI v_acts)) jlitI_1 h1)) (Eq.refl (mI a2))) (jp2 (jupA (Eq.refl (mA v_actTerm)) (jx (ja_add (Eq.refl (mI v_acts)) jlitI_1 h1)) (Eq.refl (mI a3))) (jupA (Eq.refl (mA v_voidAt)) (jx (ja_add (Eq.refl (mI v_acts)) jlitI_1 h1)) jlitI_0))))))))
theorem t_pM_writ_b17 {N N_j : Nat} (t_N : N = N_j) {a1 : Int32} {a1_j : Int} (t_a1 : mI a1 = a1_j) {v_allWord : (Nat → Int32)} {v_allWord_j : (Nat → Int)} (t_v_allWord : mA v_allWord = v_allWord_j) {v_allowWord : (Nat → Int32)} {v_allowWord_j : (Nat → Int)} (t_v_allowWord : mA v_allowWord = v_allowWord_j) {v_andWord : (Nat → Int32)} {v_andWord_j : (Nat → Int)} (t_v_andWord : mA v_andWord = v_andWord_j) {v_blanchedWord : (Nat → Int32)} {v_blanchedWord_j : (Nat → Int)} (t_v_blanchedWord : mA v_blanchedWord = v_blanchedWord_j) {v_debtWord : (Nat → Int32)} {v_debtWord_j : (Nat → Int)} (t_v_debtWord : mA v_debtWord = v_debtWord_j) {v_farmWord : (Nat → Int32)} {v_farmWord_j : (Nat → Int)} (t_v_farmWord : mA v_farmWord = v_farmWord_j) {v_forWord : (Nat → Int32)} {v_forWord_j : (Nat → Int)} (t_v_forWord : mA v_forWord = v_forWord_j) {v_inWord : (Nat → Int32)} {v_inWord_j : (Nat → Int)} (t_v_inWord : mA v_inWord = v_inWord_j) {v_maxWord : (Nat → Int32)} {v_maxWord_j : (Nat → Int)} (t_v_maxWord : mA v_maxWord = v_maxWord_j) {v_minWord : (Nat → Int32)} {v_minWord_j : (Nat → Int)} (t_v_minWord : mA v_minWord = v_minWord_j) {v_notWord : (Nat → Int32)} {v_notWord_j : (Nat → Int)} (t_v_notWord : mA v_notWord = v_notWord_j) {v_orWord : (Nat → Int32)} {v_orWord_j : (Nat → Int)} (t_v_orWord : mA v_orWord = v_orWord_j) {v_paidWord : (Nat → Int32)} {v_paidWord_j : (Nat → Int)} (t_v_paidWord : mA v_paidWord = v_paidWord_j) {v_pardonWord : (Nat → Int32)} {v_pardonWord_j : (Nat → Int)} (t_v_pardonWord : mA v_pardonWord = v_pardonWord_j) {v_penceWord : (Nat → Int32)} {v_penceWord_j : (Nat → Int)} (t_v_penceWord : mA v_penceWord = v_penceWord_j) {v_poundsWord : (Nat → Int32)} {v_poundsWord_j : (Nat → Int)} (t_v_poundsWord : mA v_poundsWord = v_poundsWord_j) {v_shillingsWord : (Nat → Int32)} {v_shillingsWord_j : (Nat → Int)} (t_v_shillingsWord : mA v_shillingsWord = v_shillingsWord_j) {v_shireWord : (Nat → Int32)} {v_shireWord_j : (Nat → Int)} (t_v_shireWord : mA v_shireWord = v_shireWord_j) {v_splitWord : (Nat → Int32)} {v_splitWord_j : (Nat → Int)} (t_v_splitWord : mA v_splitWord = v_splitWord_j) {v_tape : (Nat → Int32)} {v_tape_j : (Nat → Int)} (t_v_tape : mA v_tape = v_tape_j) {v_termWord : (Nat → Int32)} {v_termWord_j : (Nat → Int)} (t_v_termWord : mA v_termWord = v_termWord_j) {v_yearWord : (Nat → Int32)} {v_yearWord_j : (Nat → Int)} (t_v_yearWord : mA v_yearWord = v_yearWord_j) {v_acts : Int32} {v_acts_j : Int} (t_v_acts : mI v_acts = v_acts_j) {v_at : Int32} {v_at_j : Int} (t_v_at : mI v_at = v_at_j) {v_bad : Int32} {v_bad_j : Int} (t_v_bad : mI v_bad = v_bad_j) {v_badPlace : Int32} {v_badPlace_j : Int} (t_v_badPlace : mI v_badPlace = v_badPlace_j) {v_base : Int32} {v_base_j : Int} (t_v_base : mI v_base = v_base_j) {v_coded : Int32} {v_coded_j : Int} (t_v_coded : mI v_coded = v_coded_j) {v_end : Int32} {v_end_j : Int} (t_v_end : mI v_end = v_end_j) {v_ended : Int32} {v_ended_j : Int} (t_v_ended : mI v_ended = v_ended_j) {v_fault : Int32} {v_fault_j : Int} (t_v_fault : mI v_fault = v_fault_j) {v_faultPlace : Int32} {v_faultPlace_j : Int} (t_v_faultPlace : mI v_faultPlace = v_faultPlace_j) {v_open : Int32} {v_open_j : Int} (t_v_open : mI v_open = v_open_j) {v_taped : Int32} {v_taped_j : Int} (t_v_taped : mI v_taped = v_taped_j) {v_waits : Int32} {v_waits_j : Int} (t_v_waits : mI v_waits = v_waits_j) {v_actKind : (Nat → Int32)} {v_actKind_j : (Nat → Int)} (t_v_actKind : mA v_actKind = v_actKind_j) {v_actNumber : (Nat → Int32)} {v_actNumber_j : (Nat → Int)} (t_v_actNumber : mA v_actNumber = v_actNumber_j) {v_actShire : (Nat → Int32)} {v_actShire_j : (Nat → Int)} (t_v_actShire : mA v_actShire = v_actShire_j) {v_actTerm : (Nat → Int32)} {v_actTerm_j : (Nat → Int)} (t_v_actTerm : mA v_actTerm = v_actTerm_j) {v_codes : (Nat → Int32)} {v_codes_j : (Nat → Int)} (t_v_codes : mA v_codes = v_codes_j) {v_first : (Nat → Int32)} {v_first_j : (Nat → Int)} (t_v_first : mA v_first = v_first_j) {v_isBlanched : (Nat → Int32)} {v_isBlanched_j : (Nat → Int)} (t_v_isBlanched : mA v_isBlanched = v_isBlanched_j) {v_many : (Nat → Int32)} {v_many_j : (Nat → Int)} (t_v_many : mA v_many = v_many_j) {v_second : (Nat → Int32)} {v_second_j : (Nat → Int)} (t_v_second : mA v_second = v_second_j) {v_sort : (Nat → Int32)} {v_sort_j : (Nat → Int)} (t_v_sort : mA v_sort = v_sort_j) {v_sumEnd : (Nat → Int32)} {v_sumEnd_j : (Nat → Int)} (t_v_sumEnd : mA v_sumEnd = v_sumEnd_j) {v_sumFrom : (Nat → Int32)} {v_sumFrom_j : (Nat → Int)} (t_v_sumFrom : mA v_sumFrom = v_sumFrom_j) {v_testEnd : (Nat → Int32)} {v_testEnd_j : (Nat → Int)} (t_v_testEnd : mA v_testEnd = v_testEnd_j) {v_voidAt : (Nat → Int32)} {v_voidAt_j : (Nat → Int)} (t_v_voidAt : mA v_voidAt = v_voidAt_j) {v_wait : (Nat → Int32)} {v_wait_j : (Nat → Int)} (t_v_wait : mA v_wait = v_wait_j) : tl (mP mI (mP mI (mP mI (mP mI (mP mI (mP mI (mP mI (mP mI (mP mI (mP mI (mP mI (mP mI (mP mI (mP mI (mP mA (mP mA (mP mA (mP mA (mP mA (mP mA (mP mA (mP mA (mP mA (mP mA (mP mA (mP mA (mP mA (mP mA mA)))))))))))))))))))))))))))) (iM_writ_b17 N_j a1_j v_allWord_j v_allowWord_j v_andWord_j v_blanchedWord_j v_debtWord_j v_farmWord_j v_forWord_j v_inWord_j v_maxWord_j v_minWord_j v_notWord_j v_orWord_j v_paidWord_j v_pardonWord_j v_penceWord_j v_poundsWord_j v_shillingsWord_j v_shireWord_j v_splitWord_j v_tape_j v_termWord_j v_yearWord_j v_acts_j v_at_j v_bad_j v_badPlace_j v_base_j v_coded_j v_end_j v_ended_j v_fault_j v_faultPlace_j v_open_j v_taped_j v_waits_j v_actKind_j v_actNumber_j v_actShire_j v_actTerm_j v_codes_j v_first_j v_isBlanched_j v_many_j v_second_j v_sort_j v_sumEnd_j v_sumFrom_j v_testEnd_j v_voidAt_j v_wait_j) (pM_writ_b17 N a1 v_allWord v_allowWord v_andWord v_blanchedWord v_debtWord v_farmWord v_forWord v_inWord v_maxWord v_minWord v_notWord v_orWord v_paidWord v_pardonWord v_penceWord v_poundsWord v_shillingsWord v_shireWord v_splitWord v_tape v_termWord v_yearWord v_acts v_at v_bad v_badPlace v_base v_coded v_end v_ended v_fault v_faultPlace v_open v_taped v_waits v_actKind v_actNumber v_actShire v_actTerm v_codes v_first v_isBlanched v_many v_second v_sort v_sumEnd v_sumFrom v_testEnd v_voidAt v_wait) := by
  subst t_N
  subst t_a1
  subst t_v_allWord
  subst t_v_allowWord
  subst t_v_andWord
  subst t_v_blanchedWord
  subst t_v_debtWord
  subst t_v_farmWord
  subst t_v_forWord
  subst t_v_inWord
  subst t_v_maxWord
  subst t_v_minWord
  subst t_v_notWord
  subst t_v_orWord
  subst t_v_paidWord
  subst t_v_pardonWord
  subst t_v_penceWord
  subst t_v_poundsWord
  subst t_v_shillingsWord
  subst t_v_shireWord
  subst t_v_splitWord
  subst t_v_tape
  subst t_v_termWord
  subst t_v_yearWord
  subst t_v_acts
  subst t_v_at
  subst t_v_bad
  subst t_v_badPlace
  subst t_v_base
  subst t_v_coded
  subst t_v_end
  subst t_v_ended
  subst t_v_fault
  subst t_v_faultPlace
  subst t_v_open
  subst t_v_taped
  subst t_v_waits
  subst t_v_actKind
  subst t_v_actNumber
  subst t_v_actShire
  subst t_v_actTerm
  subst t_v_codes
  subst t_v_first
  subst t_v_isBlanched
  subst t_v_many
  subst t_v_second
  subst t_v_sort
  subst t_v_sumEnd
  subst t_v_sumFrom
  subst t_v_testEnd
  subst t_v_voidAt
  subst t_v_wait
  unfold iM_writ_b17 pM_writ_b17
  exact (tl_some (jp2 jlitI_m2 (jp2 (Eq.refl (mI v_acts)) (jp2 (Eq.refl (mI v_at)) (jp2 (Eq.refl (mI v_bad)) (jp2 (Eq.refl (mI v_badPlace)) (jp2 (Eq.refl (mI v_base)) (jp2 (Eq.refl (mI v_coded)) (jp2 (Eq.refl (mI v_end)) (jp2 (Eq.refl (mI v_ended)) (jp2 (Eq.refl (mI v_fault)) (jp2 (Eq.refl (mI v_faultPlace)) (jp2 (Eq.refl (mI v_open)) (jp2 jlitI_0 (jp2 (Eq.refl (mI v_waits)) (jp2 (Eq.refl (mA v_actKind)) (jp2 (Eq.refl (mA v_actNumber)) (jp2 (Eq.refl (mA v_actShire)) (jp2 (Eq.refl (mA v_actTerm)) (jp2 (Eq.refl (mA v_codes)) (jp2 (Eq.refl (mA v_first)) (jp2 (Eq.refl (mA v_isBlanched)) (jp2 (Eq.refl (mA v_many)) (jp2 (Eq.refl (mA v_second)) (jp2 (Eq.refl (mA v_sort)) (jp2 (Eq.refl (mA v_sumEnd)) (jp2 (Eq.refl (mA v_sumFrom)) (jp2 (Eq.refl (mA v_testEnd)) (jp2 (Eq.refl (mA v_voidAt)) (Eq.refl (mA v_wait)))))))))))))))))))))))))))))))
theorem t_pM_writ {N N_j : Nat} (t_N : N = N_j) {a1 : Int32} {a1_j : Int} (t_a1 : mI a1 = a1_j) {v_acts : Int32} {v_acts_j : Int} (t_v_acts : mI v_acts = v_acts_j) {v_at : Int32} {v_at_j : Int} (t_v_at : mI v_at = v_at_j) {v_bad : Int32} {v_bad_j : Int} (t_v_bad : mI v_bad = v_bad_j) {v_badPlace : Int32} {v_badPlace_j : Int} (t_v_badPlace : mI v_badPlace = v_badPlace_j) {v_base : Int32} {v_base_j : Int} (t_v_base : mI v_base = v_base_j) {v_coded : Int32} {v_coded_j : Int} (t_v_coded : mI v_coded = v_coded_j) {v_end : Int32} {v_end_j : Int} (t_v_end : mI v_end = v_end_j) {v_ended : Int32} {v_ended_j : Int} (t_v_ended : mI v_ended = v_ended_j) {v_fault : Int32} {v_fault_j : Int} (t_v_fault : mI v_fault = v_fault_j) {v_faultPlace : Int32} {v_faultPlace_j : Int} (t_v_faultPlace : mI v_faultPlace = v_faultPlace_j) {v_open : Int32} {v_open_j : Int} (t_v_open : mI v_open = v_open_j) {v_taped : Int32} {v_taped_j : Int} (t_v_taped : mI v_taped = v_taped_j) {v_waits : Int32} {v_waits_j : Int} (t_v_waits : mI v_waits = v_waits_j) {v_actKind : (Nat → Int32)} {v_actKind_j : (Nat → Int)} (t_v_actKind : mA v_actKind = v_actKind_j) {v_actNumber : (Nat → Int32)} {v_actNumber_j : (Nat → Int)} (t_v_actNumber : mA v_actNumber = v_actNumber_j) {v_actShire : (Nat → Int32)} {v_actShire_j : (Nat → Int)} (t_v_actShire : mA v_actShire = v_actShire_j) {v_actTerm : (Nat → Int32)} {v_actTerm_j : (Nat → Int)} (t_v_actTerm : mA v_actTerm = v_actTerm_j) {v_allWord : (Nat → Int32)} {v_allWord_j : (Nat → Int)} (t_v_allWord : mA v_allWord = v_allWord_j) {v_allowWord : (Nat → Int32)} {v_allowWord_j : (Nat → Int)} (t_v_allowWord : mA v_allowWord = v_allowWord_j) {v_andWord : (Nat → Int32)} {v_andWord_j : (Nat → Int)} (t_v_andWord : mA v_andWord = v_andWord_j) {v_blanchedWord : (Nat → Int32)} {v_blanchedWord_j : (Nat → Int)} (t_v_blanchedWord : mA v_blanchedWord = v_blanchedWord_j) {v_codes : (Nat → Int32)} {v_codes_j : (Nat → Int)} (t_v_codes : mA v_codes = v_codes_j) {v_debtWord : (Nat → Int32)} {v_debtWord_j : (Nat → Int)} (t_v_debtWord : mA v_debtWord = v_debtWord_j) {v_farmWord : (Nat → Int32)} {v_farmWord_j : (Nat → Int)} (t_v_farmWord : mA v_farmWord = v_farmWord_j) {v_first : (Nat → Int32)} {v_first_j : (Nat → Int)} (t_v_first : mA v_first = v_first_j) {v_forWord : (Nat → Int32)} {v_forWord_j : (Nat → Int)} (t_v_forWord : mA v_forWord = v_forWord_j) {v_inWord : (Nat → Int32)} {v_inWord_j : (Nat → Int)} (t_v_inWord : mA v_inWord = v_inWord_j) {v_isBlanched : (Nat → Int32)} {v_isBlanched_j : (Nat → Int)} (t_v_isBlanched : mA v_isBlanched = v_isBlanched_j) {v_many : (Nat → Int32)} {v_many_j : (Nat → Int)} (t_v_many : mA v_many = v_many_j) {v_maxWord : (Nat → Int32)} {v_maxWord_j : (Nat → Int)} (t_v_maxWord : mA v_maxWord = v_maxWord_j) {v_minWord : (Nat → Int32)} {v_minWord_j : (Nat → Int)} (t_v_minWord : mA v_minWord = v_minWord_j) {v_notWord : (Nat → Int32)} {v_notWord_j : (Nat → Int)} (t_v_notWord : mA v_notWord = v_notWord_j) {v_orWord : (Nat → Int32)} {v_orWord_j : (Nat → Int)} (t_v_orWord : mA v_orWord = v_orWord_j) {v_paidWord : (Nat → Int32)} {v_paidWord_j : (Nat → Int)} (t_v_paidWord : mA v_paidWord = v_paidWord_j) {v_pardonWord : (Nat → Int32)} {v_pardonWord_j : (Nat → Int)} (t_v_pardonWord : mA v_pardonWord = v_pardonWord_j) {v_penceWord : (Nat → Int32)} {v_penceWord_j : (Nat → Int)} (t_v_penceWord : mA v_penceWord = v_penceWord_j) {v_poundsWord : (Nat → Int32)} {v_poundsWord_j : (Nat → Int)} (t_v_poundsWord : mA v_poundsWord = v_poundsWord_j) {v_second : (Nat → Int32)} {v_second_j : (Nat → Int)} (t_v_second : mA v_second = v_second_j) {v_shillingsWord : (Nat → Int32)} {v_shillingsWord_j : (Nat → Int)} (t_v_shillingsWord : mA v_shillingsWord = v_shillingsWord_j) {v_shireWord : (Nat → Int32)} {v_shireWord_j : (Nat → Int)} (t_v_shireWord : mA v_shireWord = v_shireWord_j) {v_sort : (Nat → Int32)} {v_sort_j : (Nat → Int)} (t_v_sort : mA v_sort = v_sort_j) {v_splitWord : (Nat → Int32)} {v_splitWord_j : (Nat → Int)} (t_v_splitWord : mA v_splitWord = v_splitWord_j) {v_sumEnd : (Nat → Int32)} {v_sumEnd_j : (Nat → Int)} (t_v_sumEnd : mA v_sumEnd = v_sumEnd_j) {v_sumFrom : (Nat → Int32)} {v_sumFrom_j : (Nat → Int)} (t_v_sumFrom : mA v_sumFrom = v_sumFrom_j) {v_tape : (Nat → Int32)} {v_tape_j : (Nat → Int)} (t_v_tape : mA v_tape = v_tape_j) {v_termWord : (Nat → Int32)} {v_termWord_j : (Nat → Int)} (t_v_termWord : mA v_termWord = v_termWord_j) {v_testEnd : (Nat → Int32)} {v_testEnd_j : (Nat → Int)} (t_v_testEnd : mA v_testEnd = v_testEnd_j) {v_voidAt : (Nat → Int32)} {v_voidAt_j : (Nat → Int)} (t_v_voidAt : mA v_voidAt = v_voidAt_j) {v_wait : (Nat → Int32)} {v_wait_j : (Nat → Int)} (t_v_wait : mA v_wait = v_wait_j) {v_yearWord : (Nat → Int32)} {v_yearWord_j : (Nat → Int)} (t_v_yearWord : mA v_yearWord = v_yearWord_j) : tl (mP mI (mP mI (mP mI (mP mI (mP mI (mP mI (mP mI (mP mI (mP mI (mP mI (mP mI (mP mI (mP mI (mP mI (mP mA (mP mA (mP mA (mP mA (mP mA (mP mA (mP mA (mP mA (mP mA (mP mA (mP mA (mP mA (mP mA (mP mA mA)))))))))))))))))))))))))))) (iM_writ N_j a1_j v_acts_j v_at_j v_bad_j v_badPlace_j v_base_j v_coded_j v_end_j v_ended_j v_fault_j v_faultPlace_j v_open_j v_taped_j v_waits_j v_actKind_j v_actNumber_j v_actShire_j v_actTerm_j v_allWord_j v_allowWord_j v_andWord_j v_blanchedWord_j v_codes_j v_debtWord_j v_farmWord_j v_first_j v_forWord_j v_inWord_j v_isBlanched_j v_many_j v_maxWord_j v_minWord_j v_notWord_j v_orWord_j v_paidWord_j v_pardonWord_j v_penceWord_j v_poundsWord_j v_second_j v_shillingsWord_j v_shireWord_j v_sort_j v_splitWord_j v_sumEnd_j v_sumFrom_j v_tape_j v_termWord_j v_testEnd_j v_voidAt_j v_wait_j v_yearWord_j) (pM_writ N a1 v_acts v_at v_bad v_badPlace v_base v_coded v_end v_ended v_fault v_faultPlace v_open v_taped v_waits v_actKind v_actNumber v_actShire v_actTerm v_allWord v_allowWord v_andWord v_blanchedWord v_codes v_debtWord v_farmWord v_first v_forWord v_inWord v_isBlanched v_many v_maxWord v_minWord v_notWord v_orWord v_paidWord v_pardonWord v_penceWord v_poundsWord v_second v_shillingsWord v_shireWord v_sort v_splitWord v_sumEnd v_sumFrom v_tape v_termWord v_testEnd v_voidAt v_wait v_yearWord) := by
  subst t_N
  subst t_a1
  subst t_v_acts
  subst t_v_at
  subst t_v_bad
  subst t_v_badPlace
  subst t_v_base
  subst t_v_coded
  subst t_v_end
  subst t_v_ended
  subst t_v_fault
  subst t_v_faultPlace
  subst t_v_open
  subst t_v_taped
  subst t_v_waits
  subst t_v_actKind
  subst t_v_actNumber
  subst t_v_actShire
  subst t_v_actTerm
  subst t_v_allWord
  subst t_v_allowWord
  subst t_v_andWord
  subst t_v_blanchedWord
  subst t_v_codes
  subst t_v_debtWord
  subst t_v_farmWord
  subst t_v_first
  subst t_v_forWord
  subst t_v_inWord
  subst t_v_isBlanched
  subst t_v_many
  subst t_v_maxWord
  subst t_v_minWord
  subst t_v_notWord
  subst t_v_orWord
  subst t_v_paidWord
  subst t_v_pardonWord
  subst t_v_penceWord
  subst t_v_poundsWord
  subst t_v_second
  subst t_v_shillingsWord
  subst t_v_shireWord
  subst t_v_sort
  subst t_v_splitWord
  subst t_v_sumEnd
  subst t_v_sumFrom
  subst t_v_tape
  subst t_v_termWord
  subst t_v_testEnd
  subst t_v_voidAt
  subst t_v_wait
  subst t_v_yearWord
  unfold iM_writ pM_writ
  refine tl_bd1 (t_pM_isTerm (Eq.refl (mI a1))) (fun rc1 => ?_)
  refine tl_ite (jc_eq (Eq.refl (mI rc1)) jlitI_0) ?_ ?_
  · exact (t_pM_writ_b17 (Eq.refl N) (Eq.refl (mI a1)) (Eq.refl (mA v_allWord)) (Eq.refl (mA v_allowWord)) (Eq.refl (mA v_andWord)) (Eq.refl (mA v_blanchedWord)) (Eq.refl (mA v_debtWord)) (Eq.refl (mA v_farmWord)) (Eq.refl (mA v_forWord)) (Eq.refl (mA v_inWord)) (Eq.refl (mA v_maxWord)) (Eq.refl (mA v_minWord)) (Eq.refl (mA v_notWord)) (Eq.refl (mA v_orWord)) (Eq.refl (mA v_paidWord)) (Eq.refl (mA v_pardonWord)) (Eq.refl (mA v_penceWord)) (Eq.refl (mA v_poundsWord)) (Eq.refl (mA v_shillingsWord)) (Eq.refl (mA v_shireWord)) (Eq.refl (mA v_splitWord)) (Eq.refl (mA v_tape)) (Eq.refl (mA v_termWord)) (Eq.refl (mA v_yearWord)) (Eq.refl (mI v_acts)) (Eq.refl (mI v_at)) (Eq.refl (mI v_bad)) (Eq.refl (mI v_badPlace)) (Eq.refl (mI v_base)) (Eq.refl (mI v_coded)) (Eq.refl (mI v_end)) (Eq.refl (mI v_ended)) (Eq.refl (mI v_fault)) (Eq.refl (mI v_faultPlace)) (Eq.refl (mI v_open)) (Eq.refl (mI v_taped)) (Eq.refl (mI v_waits)) (Eq.refl (mA v_actKind)) (Eq.refl (mA v_actNumber)) (Eq.refl (mA v_actShire)) (Eq.refl (mA v_actTerm)) (Eq.refl (mA v_codes)) (Eq.refl (mA v_first)) (Eq.refl (mA v_isBlanched)) (Eq.refl (mA v_many)) (Eq.refl (mA v_second)) (Eq.refl (mA v_sort)) (Eq.refl (mA v_sumEnd)) (Eq.refl (mA v_sumFrom)) (Eq.refl (mA v_testEnd)) (Eq.refl (mA v_voidAt)) (Eq.refl (mA v_wait)))
  · refine tl_ite (jc_eq (Eq.refl (mI v_acts)) jlitI_200) ?_ ?_
    · exact (t_pM_writ_b17 (Eq.refl N) (Eq.refl (mI a1)) (Eq.refl (mA v_allWord)) (Eq.refl (mA v_allowWord)) (Eq.refl (mA v_andWord)) (Eq.refl (mA v_blanchedWord)) (Eq.refl (mA v_debtWord)) (Eq.refl (mA v_farmWord)) (Eq.refl (mA v_forWord)) (Eq.refl (mA v_inWord)) (Eq.refl (mA v_maxWord)) (Eq.refl (mA v_minWord)) (Eq.refl (mA v_notWord)) (Eq.refl (mA v_orWord)) (Eq.refl (mA v_paidWord)) (Eq.refl (mA v_pardonWord)) (Eq.refl (mA v_penceWord)) (Eq.refl (mA v_poundsWord)) (Eq.refl (mA v_shillingsWord)) (Eq.refl (mA v_shireWord)) (Eq.refl (mA v_splitWord)) (Eq.refl (mA v_tape)) (Eq.refl (mA v_termWord)) (Eq.refl (mA v_yearWord)) (Eq.refl (mI v_acts)) (Eq.refl (mI v_at)) (Eq.refl (mI v_bad)) (Eq.refl (mI v_badPlace)) (Eq.refl (mI v_base)) (Eq.refl (mI v_coded)) (Eq.refl (mI v_end)) (Eq.refl (mI v_ended)) (Eq.refl (mI v_fault)) (Eq.refl (mI v_faultPlace)) (Eq.refl (mI v_open)) (Eq.refl (mI v_taped)) (Eq.refl (mI v_waits)) (Eq.refl (mA v_actKind)) (Eq.refl (mA v_actNumber)) (Eq.refl (mA v_actShire)) (Eq.refl (mA v_actTerm)) (Eq.refl (mA v_codes)) (Eq.refl (mA v_first)) (Eq.refl (mA v_isBlanched)) (Eq.refl (mA v_many)) (Eq.refl (mA v_second)) (Eq.refl (mA v_sort)) (Eq.refl (mA v_sumEnd)) (Eq.refl (mA v_sumFrom)) (Eq.refl (mA v_testEnd)) (Eq.refl (mA v_voidAt)) (Eq.refl (mA v_wait)))
    · refine tl_bd23 (t_pM_reads (Eq.refl N) (Eq.refl (mI v_at)) (Eq.refl (mI v_bad)) (Eq.refl (mI v_badPlace)) (Eq.refl (mI v_base)) (Eq.refl (mI v_coded)) (Eq.refl (mI v_end)) (Eq.refl (mI v_ended)) (Eq.refl (mI v_fault)) (Eq.refl (mI v_faultPlace)) (Eq.refl (mI v_open)) (Eq.refl (mI v_taped)) (Eq.refl (mI v_waits)) (Eq.refl (mA v_allWord)) (Eq.refl (mA v_allowWord)) (Eq.refl (mA v_andWord)) (Eq.refl (mA v_blanchedWord)) (Eq.refl (mA v_codes)) (Eq.refl (mA v_debtWord)) (Eq.refl (mA v_farmWord)) (Eq.refl (mA v_first)) (Eq.refl (mA v_forWord)) (Eq.refl (mA v_inWord)) (Eq.refl (mA v_isBlanched)) (Eq.refl (mA v_many)) (Eq.refl (mA v_maxWord)) (Eq.refl (mA v_minWord)) (Eq.refl (mA v_notWord)) (Eq.refl (mA v_orWord)) (Eq.refl (mA v_paidWord)) (Eq.refl (mA v_pardonWord)) (Eq.refl (mA v_penceWord)) (Eq.refl (mA v_poundsWord)) (Eq.refl (mA v_second)) (Eq.refl (mA v_shillingsWord)) (Eq.refl (mA v_shireWord)) (Eq.refl (mA v_sort)) (Eq.refl (mA v_splitWord)) (Eq.refl (mA v_sumEnd)) (Eq.refl (mA v_sumFrom)) (Eq.refl (mA v_tape)) (Eq.refl (mA v_termWord)) (Eq.refl (mA v_testEnd)) (Eq.refl (mA v_wait)) (Eq.refl (mA v_yearWord))) (fun rc2 v_at_c2 v_bad_c2 v_badPlace_c2 v_base_c2 v_coded_c2 v_end_c2 v_ended_c2 v_fault_c2 v_faultPlace_c2 v_open_c2 v_taped_c2 v_waits_c2 v_codes_c2 v_first_c2 v_isBlanched_c2 v_many_c2 v_second_c2 v_sort_c2 v_sumEnd_c2 v_sumFrom_c2 v_testEnd_c2 v_wait_c2 => ?_)
      refine tl_ite (jc_eq (Eq.refl (mI rc2)) jlitI_0) ?_ ?_
      · exact (tl_some (jp2 jlitI_m1 (jp2 (Eq.refl (mI v_acts)) (jp2 (Eq.refl (mI v_at_c2)) (jp2 (Eq.refl (mI v_bad_c2)) (jp2 (Eq.refl (mI v_badPlace_c2)) (jp2 (Eq.refl (mI v_base_c2)) (jp2 (Eq.refl (mI v_coded_c2)) (jp2 (Eq.refl (mI v_end_c2)) (jp2 (Eq.refl (mI v_ended_c2)) (jp2 (Eq.refl (mI v_fault_c2)) (jp2 (Eq.refl (mI v_faultPlace_c2)) (jp2 (Eq.refl (mI v_open_c2)) (jp2 (Eq.refl (mI v_taped_c2)) (jp2 (Eq.refl (mI v_waits_c2)) (jp2 (Eq.refl (mA v_actKind)) (jp2 (Eq.refl (mA v_actNumber)) (jp2 (Eq.refl (mA v_actShire)) (jp2 (Eq.refl (mA v_actTerm)) (jp2 (Eq.refl (mA v_codes_c2)) (jp2 (Eq.refl (mA v_first_c2)) (jp2 (Eq.refl (mA v_isBlanched_c2)) (jp2 (Eq.refl (mA v_many_c2)) (jp2 (Eq.refl (mA v_second_c2)) (jp2 (Eq.refl (mA v_sort_c2)) (jp2 (Eq.refl (mA v_sumEnd_c2)) (jp2 (Eq.refl (mA v_sumFrom_c2)) (jp2 (Eq.refl (mA v_testEnd_c2)) (jp2 (Eq.refl (mA v_voidAt)) (Eq.refl (mA v_wait_c2)))))))))))))))))))))))))))))))
      · refine tl_bd7 (t_pM_act jlitI_1 jlitI_0 (Eq.refl (mI a1)) jlitI_0 (Eq.refl (mI v_acts)) (Eq.refl (mA v_actKind)) (Eq.refl (mA v_actNumber)) (Eq.refl (mA v_actShire)) (Eq.refl (mA v_actTerm)) (Eq.refl (mA v_voidAt))) (fun rc3 v_acts_c3 v_actKind_c3 v_actNumber_c3 v_actShire_c3 v_actTerm_c3 v_voidAt_c3 => ?_)
        refine tl_bd9 (t_pM_copies (Eq.refl N) (Eq.refl (mI rc3)) (Eq.refl (mI v_coded_c2)) (Eq.refl (mA v_codes_c2)) (Eq.refl (mA v_first_c2)) (Eq.refl (mA v_isBlanched_c2)) (Eq.refl (mA v_many_c2)) (Eq.refl (mA v_second_c2)) (Eq.refl (mA v_sort_c2)) (Eq.refl (mA v_sumEnd_c2)) (Eq.refl (mA v_sumFrom_c2)) (Eq.refl (mA v_testEnd_c2))) (fun v_codes_c4 v_first_c4 v_isBlanched_c4 v_many_c4 v_second_c4 v_sort_c4 v_sumEnd_c4 v_sumFrom_c4 v_testEnd_c4 => ?_)
        exact (tl_some (jp2 (Eq.refl (mI rc3)) (jp2 (Eq.refl (mI v_acts_c3)) (jp2 (Eq.refl (mI v_at_c2)) (jp2 (Eq.refl (mI v_bad_c2)) (jp2 (Eq.refl (mI v_badPlace_c2)) (jp2 (Eq.refl (mI v_base_c2)) (jp2 (Eq.refl (mI v_coded_c2)) (jp2 (Eq.refl (mI v_end_c2)) (jp2 (Eq.refl (mI v_ended_c2)) (jp2 (Eq.refl (mI v_fault_c2)) (jp2 (Eq.refl (mI v_faultPlace_c2)) (jp2 (Eq.refl (mI v_open_c2)) (jp2 (Eq.refl (mI v_taped_c2)) (jp2 (Eq.refl (mI v_waits_c2)) (jp2 (Eq.refl (mA v_actKind_c3)) (jp2 (Eq.refl (mA v_actNumber_c3)) (jp2 (Eq.refl (mA v_actShire_c3)) (jp2 (Eq.refl (mA v_actTerm_c3)) (jp2 (Eq.refl (mA v_codes_c4)) (jp2 (Eq.refl (mA v_first_c4)) (jp2 (Eq.refl (mA v_isBlanched_c4)) (jp2 (Eq.refl (mA v_many_c4)) (jp2 (Eq.refl (mA v_second_c4)) (jp2 (Eq.refl (mA v_sort_c4)) (jp2 (Eq.refl (mA v_sumEnd_c4)) (jp2 (Eq.refl (mA v_sumFrom_c4)) (jp2 (Eq.refl (mA v_testEnd_c4)) (jp2 (Eq.refl (mA v_voidAt_c3)) (Eq.refl (mA v_wait_c2)))))))))))))))))))))))))))))))
theorem t_pM_fault {a1 : Int32} {a1_j : Int} (t_a1 : mI a1 = a1_j) {v_fault : Int32} {v_fault_j : Int} (t_v_fault : mI v_fault = v_fault_j) {v_faultPlace : Int32} {v_faultPlace_j : Int} (t_v_faultPlace : mI v_faultPlace = v_faultPlace_j) : tl (mI) (iM_fault a1_j v_fault_j v_faultPlace_j) (pM_fault a1 v_fault v_faultPlace) := by
  subst t_a1
  subst t_v_fault
  subst t_v_faultPlace
  unfold iM_fault pM_fault
  refine tl_ite (jc_eq (Eq.refl (mI a1)) jlitI_0) ?_ ?_
  · exact (tl_some (Eq.refl (mI v_fault)))
  · refine tl_ite (jc_eq (Eq.refl (mI a1)) jlitI_1) ?_ ?_
    · exact (tl_some (Eq.refl (mI v_faultPlace)))
    · exact (tl_some jlitI_m1)
theorem t_pM_isPayment {a1 : Int32} {a1_j : Int} (t_a1 : mI a1 = a1_j) {v_actKind : (Nat → Int32)} {v_actKind_j : (Nat → Int)} (t_v_actKind : mA v_actKind = v_actKind_j) : tl (mI) (iM_isPayment a1_j v_actKind_j) (pM_isPayment a1 v_actKind) := by
  subst t_a1
  subst t_v_actKind
  unfold iM_isPayment pM_isPayment
  refine tl_gd (jg_ib (Eq.refl (mI a1))) (fun _ => ?_)
  refine tl_ite (jc_eq (jrd (Eq.refl (mA v_actKind)) (jx (Eq.refl (mI a1)))) jlitI_2) ?_ ?_
  · exact (tl_some jlitI_1)
  · refine tl_ite (jc_eq (jrd (Eq.refl (mA v_actKind)) (jx (Eq.refl (mI a1)))) jlitI_3) ?_ ?_
    · exact (tl_some jlitI_1)
    · exact (tl_some jlitI_0)
theorem t_pM_mayPay_b5_F {N N_j : Nat} (t_N : N = N_j) {a1 : Int32} {a1_j : Int} (t_a1 : mI a1 = a1_j) {a2 : Int32} {a2_j : Int} (t_a2 : mI a2 = a2_j) {v_acts : Int32} {v_acts_j : Int} (t_v_acts : mI v_acts = v_acts_j) {v_actKind : (Nat → Int32)} {v_actKind_j : (Nat → Int)} (t_v_actKind : mA v_actKind = v_actKind_j) {k32 : Int32 → Option R_pM_mayPay} {k32_j : Int → Option Int} (t_k32 : ∀ (q0_ : Int32), tl (mI) (k32_j (mI q0_)) (k32 q0_)) {self : Int32 → Int32 → Option R_pM_mayPay} {self_j : Int → Int → Option Int} (t_self : ∀ (q0_ : Int32) (q1_ : Int32), tl (mI) (self_j (mI q0_) (mI q1_)) (self q0_ q1_)) {x3 : Int32} {x3_j : Int} (t_x3 : mI x3 = x3_j) {x4 : Int32} {x4_j : Int} (t_x4 : mI x4 = x4_j) : tl (mI) (iM_mayPay_b5_F N_j a1_j a2_j v_acts_j v_actKind_j k32_j self_j x3_j x4_j) (pM_mayPay_b5_F N a1 a2 v_acts v_actKind k32 self x3 x4) := by
  subst t_N
  subst t_a1
  subst t_a2
  subst t_v_acts
  subst t_v_actKind
  subst t_x3
  subst t_x4
  unfold iM_mayPay_b5_F pM_mayPay_b5_F
  refine tl_ite (jc_lt (Eq.refl (mI v_acts)) (Eq.refl (mI x4))) ?_ ?_
  · exact (tl_e1 (Eq.refl (mI x3)) (t_k32 _))
  · refine tl_bd1 (t_pM_isPayment (Eq.refl (mI x4)) (Eq.refl (mA v_actKind))) (fun rc1 => ?_)
    refine tl_ite (jc_eq (Eq.refl (mI rc1)) jlitI_0) ?_ ?_
    · refine tl_g (fun h1 => ?_)
      exact (tl_e2 (Eq.refl (mI x3)) (ja_add (Eq.refl (mI x4)) jlitI_1 h1) (t_self _ _))
    · refine tl_g (fun h2 => ?_)
      refine tl_g (fun h3 => ?_)
      exact (tl_e2 (ja_add (Eq.refl (mI x3)) jlitI_1 h2) (ja_add (Eq.refl (mI x4)) jlitI_1 h3) (t_self _ _))
theorem t_pM_mayPay_b5 {N N_j : Nat} (t_N : N = N_j) {a1 : Int32} {a1_j : Int} (t_a1 : mI a1 = a1_j) {a2 : Int32} {a2_j : Int} (t_a2 : mI a2 = a2_j) {v_acts : Int32} {v_acts_j : Int} (t_v_acts : mI v_acts = v_acts_j) {v_actKind : (Nat → Int32)} {v_actKind_j : (Nat → Int)} (t_v_actKind : mA v_actKind = v_actKind_j) {k32 : Int32 → Option R_pM_mayPay} {k32_j : Int → Option Int} (t_k32 : ∀ (q0_ : Int32), tl (mI) (k32_j (mI q0_)) (k32 q0_)) {n n_j : Nat} (t_n : n = n_j) {w0_ : Int32} {w0__j : Int} (t_w0_ : mI w0_ = w0__j) {w1_ : Int32} {w1__j : Int} (t_w1_ : mI w1_ = w1__j) : tl (mI) (iM_mayPay_b5 N_j a1_j a2_j v_acts_j v_actKind_j k32_j n_j w0__j w1__j) (pM_mayPay_b5 N a1 a2 v_acts v_actKind k32 n w0_ w1_) := by
  subst t_N
  subst t_a1
  subst t_a2
  subst t_v_acts
  subst t_v_actKind
  subst t_n
  subst t_w0_
  subst t_w1_
  exact tl_zlp2 (fun s2 s hs w0_ w1_ => t_pM_mayPay_b5_F (Eq.refl N) (Eq.refl (mI a1)) (Eq.refl (mI a2)) (Eq.refl (mI v_acts)) (Eq.refl (mA v_actKind)) t_k32 hs (Eq.refl (mI w0_)) (Eq.refl (mI w1_))) n w0_ w1_
theorem t_pM_mayPay_b32 {N N_j : Nat} (t_N : N = N_j) {a1 : Int32} {a1_j : Int} (t_a1 : mI a1 = a1_j) {a2 : Int32} {a2_j : Int} (t_a2 : mI a2 = a2_j) {v_acts : Int32} {v_acts_j : Int} (t_v_acts : mI v_acts = v_acts_j) {v_actKind : (Nat → Int32)} {v_actKind_j : (Nat → Int)} (t_v_actKind : mA v_actKind = v_actKind_j) {x3 : Int32} {x3_j : Int} (t_x3 : mI x3 = x3_j) : tl (mI) (iM_mayPay_b32 N_j a1_j a2_j v_acts_j v_actKind_j x3_j) (pM_mayPay_b32 N a1 a2 v_acts v_actKind x3) := by
  subst t_N
  subst t_a1
  subst t_a2
  subst t_v_acts
  subst t_v_actKind
  subst t_x3
  unfold iM_mayPay_b32 pM_mayPay_b32
  refine tl_bd1 (t_pM_isShire (Eq.refl (mI a1))) (fun rc2 => ?_)
  refine tl_ite (jc_eq (Eq.refl (mI rc2)) jlitI_0) ?_ ?_
  · exact (tl_some jlitI_0)
  · refine tl_bd1 (t_pM_isTerm (Eq.refl (mI a2))) (fun rc3 => ?_)
    refine tl_ite (jc_eq (Eq.refl (mI rc3)) jlitI_0) ?_ ?_
    · exact (tl_some jlitI_0)
    · refine tl_ite (jc_le jlitI_60 (Eq.refl (mI x3))) ?_ ?_
      · exact (tl_some jlitI_0)
      · exact (tl_some jlitI_1)
theorem t_pM_mayPay {N N_j : Nat} (t_N : N = N_j) {a1 : Int32} {a1_j : Int} (t_a1 : mI a1 = a1_j) {a2 : Int32} {a2_j : Int} (t_a2 : mI a2 = a2_j) {v_acts : Int32} {v_acts_j : Int} (t_v_acts : mI v_acts = v_acts_j) {v_actKind : (Nat → Int32)} {v_actKind_j : (Nat → Int)} (t_v_actKind : mA v_actKind = v_actKind_j) : tl (mI) (iM_mayPay N_j a1_j a2_j v_acts_j v_actKind_j) (pM_mayPay N a1 a2 v_acts v_actKind) := by
  subst t_N
  subst t_a1
  subst t_a2
  subst t_v_acts
  subst t_v_actKind
  unfold iM_mayPay pM_mayPay
  exact (t_pM_mayPay_b5 (Eq.refl N) (Eq.refl (mI a1)) (Eq.refl (mI a2)) (Eq.refl (mI v_acts)) (Eq.refl (mA v_actKind)) (fun e5_ => by exact (t_pM_mayPay_b32 (Eq.refl N) (Eq.refl (mI a1)) (Eq.refl (mI a2)) (Eq.refl (mI v_acts)) (Eq.refl (mA v_actKind)) (Eq.refl (mI e5_)))) (Eq.refl N) jlitI_0 jlitI_1)
theorem t_pM_pays {N N_j : Nat} (t_N : N = N_j) {a1 : Int32} {a1_j : Int} (t_a1 : mI a1 = a1_j) {a2 : Int32} {a2_j : Int} (t_a2 : mI a2 = a2_j) {a3 : Int32} {a3_j : Int} (t_a3 : mI a3 = a3_j) {v_acts : Int32} {v_acts_j : Int} (t_v_acts : mI v_acts = v_acts_j) {v_actKind : (Nat → Int32)} {v_actKind_j : (Nat → Int)} (t_v_actKind : mA v_actKind = v_actKind_j) {v_actNumber : (Nat → Int32)} {v_actNumber_j : (Nat → Int)} (t_v_actNumber : mA v_actNumber = v_actNumber_j) {v_actShire : (Nat → Int32)} {v_actShire_j : (Nat → Int)} (t_v_actShire : mA v_actShire = v_actShire_j) {v_actTerm : (Nat → Int32)} {v_actTerm_j : (Nat → Int)} (t_v_actTerm : mA v_actTerm = v_actTerm_j) {v_voidAt : (Nat → Int32)} {v_voidAt_j : (Nat → Int)} (t_v_voidAt : mA v_voidAt = v_voidAt_j) : tl (mP mI (mP mI (mP mA (mP mA (mP mA (mP mA mA)))))) (iM_pays N_j a1_j a2_j a3_j v_acts_j v_actKind_j v_actNumber_j v_actShire_j v_actTerm_j v_voidAt_j) (pM_pays N a1 a2 a3 v_acts v_actKind v_actNumber v_actShire v_actTerm v_voidAt) := by
  subst t_N
  subst t_a1
  subst t_a2
  subst t_a3
  subst t_v_acts
  subst t_v_actKind
  subst t_v_actNumber
  subst t_v_actShire
  subst t_v_actTerm
  subst t_v_voidAt
  unfold iM_pays pM_pays
  refine tl_bd1 (t_pM_mayPay (Eq.refl N) (Eq.refl (mI a1)) (Eq.refl (mI a2)) (Eq.refl (mI v_acts)) (Eq.refl (mA v_actKind))) (fun rc1 => ?_)
  refine tl_ite (jc_eq (Eq.refl (mI rc1)) jlitI_0) ?_ ?_
  · exact (tl_some (jp2 jlitI_m1 (jp2 (Eq.refl (mI v_acts)) (jp2 (Eq.refl (mA v_actKind)) (jp2 (Eq.refl (mA v_actNumber)) (jp2 (Eq.refl (mA v_actShire)) (jp2 (Eq.refl (mA v_actTerm)) (Eq.refl (mA v_voidAt)))))))))
  · refine tl_bd1 (t_pM_isIn (ja_i2l (Eq.refl (mI a3))) jlitJ_1 jlitJ_1000000) (fun rc2 => ?_)
    refine tl_ite (jc_eq (Eq.refl (mI rc2)) jlitI_0) ?_ ?_
    · exact (tl_some (jp2 jlitI_m1 (jp2 (Eq.refl (mI v_acts)) (jp2 (Eq.refl (mA v_actKind)) (jp2 (Eq.refl (mA v_actNumber)) (jp2 (Eq.refl (mA v_actShire)) (jp2 (Eq.refl (mA v_actTerm)) (Eq.refl (mA v_voidAt)))))))))
    · refine tl_bd7 (t_pM_act jlitI_2 (Eq.refl (mI a1)) (Eq.refl (mI a2)) (Eq.refl (mI a3)) (Eq.refl (mI v_acts)) (Eq.refl (mA v_actKind)) (Eq.refl (mA v_actNumber)) (Eq.refl (mA v_actShire)) (Eq.refl (mA v_actTerm)) (Eq.refl (mA v_voidAt))) (fun rc3 v_acts_c3 v_actKind_c3 v_actNumber_c3 v_actShire_c3 v_actTerm_c3 v_voidAt_c3 => ?_)
      exact (tl_some (jp2 (Eq.refl (mI rc3)) (jp2 (Eq.refl (mI v_acts_c3)) (jp2 (Eq.refl (mA v_actKind_c3)) (jp2 (Eq.refl (mA v_actNumber_c3)) (jp2 (Eq.refl (mA v_actShire_c3)) (jp2 (Eq.refl (mA v_actTerm_c3)) (Eq.refl (mA v_voidAt_c3)))))))))
theorem t_pM_tally {N N_j : Nat} (t_N : N = N_j) {a1 : Int32} {a1_j : Int} (t_a1 : mI a1 = a1_j) {a2 : Int32} {a2_j : Int} (t_a2 : mI a2 = a2_j) {a3 : Int32} {a3_j : Int} (t_a3 : mI a3 = a3_j) {v_acts : Int32} {v_acts_j : Int} (t_v_acts : mI v_acts = v_acts_j) {v_actKind : (Nat → Int32)} {v_actKind_j : (Nat → Int)} (t_v_actKind : mA v_actKind = v_actKind_j) {v_actNumber : (Nat → Int32)} {v_actNumber_j : (Nat → Int)} (t_v_actNumber : mA v_actNumber = v_actNumber_j) {v_actShire : (Nat → Int32)} {v_actShire_j : (Nat → Int)} (t_v_actShire : mA v_actShire = v_actShire_j) {v_actTerm : (Nat → Int32)} {v_actTerm_j : (Nat → Int)} (t_v_actTerm : mA v_actTerm = v_actTerm_j) {v_voidAt : (Nat → Int32)} {v_voidAt_j : (Nat → Int)} (t_v_voidAt : mA v_voidAt = v_voidAt_j) : tl (mP mI (mP mI (mP mA (mP mA (mP mA (mP mA mA)))))) (iM_tally N_j a1_j a2_j a3_j v_acts_j v_actKind_j v_actNumber_j v_actShire_j v_actTerm_j v_voidAt_j) (pM_tally N a1 a2 a3 v_acts v_actKind v_actNumber v_actShire v_actTerm v_voidAt) := by
  subst t_N
  subst t_a1
  subst t_a2
  subst t_a3
  subst t_v_acts
  subst t_v_actKind
  subst t_v_actNumber
  subst t_v_actShire
  subst t_v_actTerm
  subst t_v_voidAt
  unfold iM_tally pM_tally
  refine tl_bd1 (t_pM_mayPay (Eq.refl N) (Eq.refl (mI a1)) (Eq.refl (mI a2)) (Eq.refl (mI v_acts)) (Eq.refl (mA v_actKind))) (fun rc1 => ?_)
  refine tl_ite (jc_eq (Eq.refl (mI rc1)) jlitI_0) ?_ ?_
  · exact (tl_some (jp2 jlitI_m1 (jp2 (Eq.refl (mI v_acts)) (jp2 (Eq.refl (mA v_actKind)) (jp2 (Eq.refl (mA v_actNumber)) (jp2 (Eq.refl (mA v_actShire)) (jp2 (Eq.refl (mA v_actTerm)) (Eq.refl (mA v_voidAt)))))))))
  · refine tl_bd1 (t_pM_isIn (ja_i2l (Eq.refl (mI a3))) jlitJ_0 jlitJ_9) (fun rc2 => ?_)
    refine tl_ite (jc_eq (Eq.refl (mI rc2)) jlitI_0) ?_ ?_
    · exact (tl_some (jp2 jlitI_m1 (jp2 (Eq.refl (mI v_acts)) (jp2 (Eq.refl (mA v_actKind)) (jp2 (Eq.refl (mA v_actNumber)) (jp2 (Eq.refl (mA v_actShire)) (jp2 (Eq.refl (mA v_actTerm)) (Eq.refl (mA v_voidAt)))))))))
    · refine tl_bd7 (t_pM_act jlitI_3 (Eq.refl (mI a1)) (Eq.refl (mI a2)) (Eq.refl (mI a3)) (Eq.refl (mI v_acts)) (Eq.refl (mA v_actKind)) (Eq.refl (mA v_actNumber)) (Eq.refl (mA v_actShire)) (Eq.refl (mA v_actTerm)) (Eq.refl (mA v_voidAt))) (fun rc3 v_acts_c3 v_actKind_c3 v_actNumber_c3 v_actShire_c3 v_actTerm_c3 v_voidAt_c3 => ?_)
      exact (tl_some (jp2 (Eq.refl (mI rc3)) (jp2 (Eq.refl (mI v_acts_c3)) (jp2 (Eq.refl (mA v_actKind_c3)) (jp2 (Eq.refl (mA v_actNumber_c3)) (jp2 (Eq.refl (mA v_actShire_c3)) (jp2 (Eq.refl (mA v_actTerm_c3)) (Eq.refl (mA v_voidAt_c3)))))))))
theorem t_pM_fire {a1 : Int32} {a1_j : Int} (t_a1 : mI a1 = a1_j) {a2 : Int32} {a2_j : Int} (t_a2 : mI a2 = a2_j) {v_acts : Int32} {v_acts_j : Int} (t_v_acts : mI v_acts = v_acts_j) {v_actKind : (Nat → Int32)} {v_actKind_j : (Nat → Int)} (t_v_actKind : mA v_actKind = v_actKind_j) {v_actNumber : (Nat → Int32)} {v_actNumber_j : (Nat → Int)} (t_v_actNumber : mA v_actNumber = v_actNumber_j) {v_actShire : (Nat → Int32)} {v_actShire_j : (Nat → Int)} (t_v_actShire : mA v_actShire = v_actShire_j) {v_actTerm : (Nat → Int32)} {v_actTerm_j : (Nat → Int)} (t_v_actTerm : mA v_actTerm = v_actTerm_j) {v_voidAt : (Nat → Int32)} {v_voidAt_j : (Nat → Int)} (t_v_voidAt : mA v_voidAt = v_voidAt_j) : tl (mP mI (mP mI (mP mA (mP mA (mP mA (mP mA mA)))))) (iM_fire a1_j a2_j v_acts_j v_actKind_j v_actNumber_j v_actShire_j v_actTerm_j v_voidAt_j) (pM_fire a1 a2 v_acts v_actKind v_actNumber v_actShire v_actTerm v_voidAt) := by
  subst t_a1
  subst t_a2
  subst t_v_acts
  subst t_v_actKind
  subst t_v_actNumber
  subst t_v_actShire
  subst t_v_actTerm
  subst t_v_voidAt
  unfold iM_fire pM_fire
  refine tl_bd1 (t_pM_isTerm (Eq.refl (mI a1))) (fun rc1 => ?_)
  refine tl_ite (jc_eq (Eq.refl (mI rc1)) jlitI_0) ?_ ?_
  · exact (tl_some (jp2 jlitI_m1 (jp2 (Eq.refl (mI v_acts)) (jp2 (Eq.refl (mA v_actKind)) (jp2 (Eq.refl (mA v_actNumber)) (jp2 (Eq.refl (mA v_actShire)) (jp2 (Eq.refl (mA v_actTerm)) (Eq.refl (mA v_voidAt)))))))))
  · refine tl_bd1 (t_pM_isIn (ja_i2l (Eq.refl (mI a2))) jlitJ_0 jlitJ_120) (fun rc2 => ?_)
    refine tl_ite (jc_eq (Eq.refl (mI rc2)) jlitI_0) ?_ ?_
    · exact (tl_some (jp2 jlitI_m1 (jp2 (Eq.refl (mI v_acts)) (jp2 (Eq.refl (mA v_actKind)) (jp2 (Eq.refl (mA v_actNumber)) (jp2 (Eq.refl (mA v_actShire)) (jp2 (Eq.refl (mA v_actTerm)) (Eq.refl (mA v_voidAt)))))))))
    · refine tl_bd7 (t_pM_act jlitI_4 jlitI_0 (Eq.refl (mI a1)) (Eq.refl (mI a2)) (Eq.refl (mI v_acts)) (Eq.refl (mA v_actKind)) (Eq.refl (mA v_actNumber)) (Eq.refl (mA v_actShire)) (Eq.refl (mA v_actTerm)) (Eq.refl (mA v_voidAt))) (fun rc3 v_acts_c3 v_actKind_c3 v_actNumber_c3 v_actShire_c3 v_actTerm_c3 v_voidAt_c3 => ?_)
      exact (tl_some (jp2 (Eq.refl (mI rc3)) (jp2 (Eq.refl (mI v_acts_c3)) (jp2 (Eq.refl (mA v_actKind_c3)) (jp2 (Eq.refl (mA v_actNumber_c3)) (jp2 (Eq.refl (mA v_actShire_c3)) (jp2 (Eq.refl (mA v_actTerm_c3)) (Eq.refl (mA v_voidAt_c3)))))))))
theorem t_pM_annul {a1 : Int32} {a1_j : Int} (t_a1 : mI a1 = a1_j) {v_acts : Int32} {v_acts_j : Int} (t_v_acts : mI v_acts = v_acts_j) {v_actKind : (Nat → Int32)} {v_actKind_j : (Nat → Int)} (t_v_actKind : mA v_actKind = v_actKind_j) {v_actNumber : (Nat → Int32)} {v_actNumber_j : (Nat → Int)} (t_v_actNumber : mA v_actNumber = v_actNumber_j) {v_actShire : (Nat → Int32)} {v_actShire_j : (Nat → Int)} (t_v_actShire : mA v_actShire = v_actShire_j) {v_actTerm : (Nat → Int32)} {v_actTerm_j : (Nat → Int)} (t_v_actTerm : mA v_actTerm = v_actTerm_j) {v_voidAt : (Nat → Int32)} {v_voidAt_j : (Nat → Int)} (t_v_voidAt : mA v_voidAt = v_voidAt_j) : tl (mP mI (mP mI (mP mA (mP mA (mP mA (mP mA mA)))))) (iM_annul a1_j v_acts_j v_actKind_j v_actNumber_j v_actShire_j v_actTerm_j v_voidAt_j) (pM_annul a1 v_acts v_actKind v_actNumber v_actShire v_actTerm v_voidAt) := by
  subst t_a1
  subst t_v_acts
  subst t_v_actKind
  subst t_v_actNumber
  subst t_v_actShire
  subst t_v_actTerm
  subst t_v_voidAt
  unfold iM_annul pM_annul
  refine tl_bd1 (t_pM_isIn (ja_i2l (Eq.refl (mI a1))) jlitJ_1 (ja_i2l (Eq.refl (mI v_acts)))) (fun rc1 => ?_)
  refine tl_ite (jc_eq (Eq.refl (mI rc1)) jlitI_0) ?_ ?_
  · exact (tl_some (jp2 jlitI_m1 (jp2 (Eq.refl (mI v_acts)) (jp2 (Eq.refl (mA v_actKind)) (jp2 (Eq.refl (mA v_actNumber)) (jp2 (Eq.refl (mA v_actShire)) (jp2 (Eq.refl (mA v_actTerm)) (Eq.refl (mA v_voidAt)))))))))
  · refine tl_gd (jg_ib (Eq.refl (mI a1))) (fun _ => ?_)
    refine tl_ite (jc_eq (jrd (Eq.refl (mA v_voidAt)) (jx (Eq.refl (mI a1)))) jlitI_0) ?_ ?_
    · refine tl_ite (jc_eq (jrd (Eq.refl (mA v_actKind)) (jx (Eq.refl (mI a1)))) jlitI_5) ?_ ?_
      · exact (tl_some (jp2 jlitI_m1 (jp2 (Eq.refl (mI v_acts)) (jp2 (Eq.refl (mA v_actKind)) (jp2 (Eq.refl (mA v_actNumber)) (jp2 (Eq.refl (mA v_actShire)) (jp2 (Eq.refl (mA v_actTerm)) (Eq.refl (mA v_voidAt)))))))))
      · refine tl_ite (jc_eq (Eq.refl (mI v_acts)) jlitI_200) ?_ ?_
        · exact (tl_some (jp2 jlitI_m1 (jp2 (Eq.refl (mI v_acts)) (jp2 (Eq.refl (mA v_actKind)) (jp2 (Eq.refl (mA v_actNumber)) (jp2 (Eq.refl (mA v_actShire)) (jp2 (Eq.refl (mA v_actTerm)) (Eq.refl (mA v_voidAt)))))))))
        · refine tl_g (fun h1 => ?_)
          refine tl_bd7 (t_pM_act jlitI_5 jlitI_0 jlitI_0 (Eq.refl (mI a1)) (Eq.refl (mI v_acts)) (Eq.refl (mA v_actKind)) (Eq.refl (mA v_actNumber)) (Eq.refl (mA v_actShire)) (Eq.refl (mA v_actTerm)) (jupA (Eq.refl (mA v_voidAt)) (jx (Eq.refl (mI a1))) (ja_add (Eq.refl (mI v_acts)) jlitI_1 h1))) (fun rc3 v_acts_c3 v_actKind_c3 v_actNumber_c3 v_actShire_c3 v_actTerm_c3 v_voidAt_c3 => ?_)
          exact (tl_some (jp2 (Eq.refl (mI rc3)) (jp2 (Eq.refl (mI v_acts_c3)) (jp2 (Eq.refl (mA v_actKind_c3)) (jp2 (Eq.refl (mA v_actNumber_c3)) (jp2 (Eq.refl (mA v_actShire_c3)) (jp2 (Eq.refl (mA v_actTerm_c3)) (Eq.refl (mA v_voidAt_c3)))))))))
    · exact (tl_some (jp2 jlitI_m1 (jp2 (Eq.refl (mI v_acts)) (jp2 (Eq.refl (mA v_actKind)) (jp2 (Eq.refl (mA v_actNumber)) (jp2 (Eq.refl (mA v_actShire)) (jp2 (Eq.refl (mA v_actTerm)) (Eq.refl (mA v_voidAt)))))))))
theorem t_pM_as {a1 : Int32} {a1_j : Int} (t_a1 : mI a1 = a1_j) {v_acts : Int32} {v_acts_j : Int} (t_v_acts : mI v_acts = v_acts_j) {v_as : Int32} {v_as_j : Int} (t_v_as : mI v_as = v_as_j) : tl (mP mI mI) (iM_as a1_j v_acts_j v_as_j) (pM_as a1 v_acts v_as) := by
  subst t_a1
  subst t_v_acts
  subst t_v_as
  unfold iM_as pM_as
  refine tl_bd1 (t_pM_isIn (ja_i2l (Eq.refl (mI a1))) jlitJ_m1 (ja_i2l (Eq.refl (mI v_acts)))) (fun rc1 => ?_)
  refine tl_ite (jc_eq (Eq.refl (mI rc1)) jlitI_0) ?_ ?_
  · exact (tl_some (jp2 jlitI_0 (Eq.refl (mI v_as))))
  · exact (tl_some (jp2 jlitI_1 (Eq.refl (mI a1))))
theorem t_pM_asNow {v_acts : Int32} {v_acts_j : Int} (t_v_acts : mI v_acts = v_acts_j) {v_as : Int32} {v_as_j : Int} (t_v_as : mI v_as = v_as_j) : tl (mI) (iM_asNow v_acts_j v_as_j) (pM_asNow v_acts v_as) := by
  subst t_v_acts
  subst t_v_as
  unfold iM_asNow pM_asNow
  refine tl_ite (jc_eq (Eq.refl (mI v_as)) jlitI_m1) ?_ ?_
  · exact (tl_some (Eq.refl (mI v_acts)))
  · exact (tl_some (Eq.refl (mI v_as)))
theorem t_pM_isKnown_b30 {a1 : Int32} {a1_j : Int} (t_a1 : mI a1 = a1_j) {v_knownAt : Int32} {v_knownAt_j : Int} (t_v_knownAt : mI v_knownAt = v_knownAt_j) {v_without : Int32} {v_without_j : Int} (t_v_without : mI v_without = v_without_j) {v_voidAt : (Nat → Int32)} {v_voidAt_j : (Nat → Int)} (t_v_voidAt : mA v_voidAt = v_voidAt_j) : tl (mI) (iM_isKnown_b30 a1_j v_knownAt_j v_without_j v_voidAt_j) (pM_isKnown_b30 a1 v_knownAt v_without v_voidAt) := by
  subst t_a1
  subst t_v_knownAt
  subst t_v_without
  subst t_v_voidAt
  unfold iM_isKnown_b30 pM_isKnown_b30
  refine tl_ite (jc_eq (Eq.refl (mI a1)) (Eq.refl (mI v_without))) ?_ ?_
  · exact (tl_some jlitI_0)
  · exact (tl_some jlitI_1)
theorem t_pM_isKnown {a1 : Int32} {a1_j : Int} (t_a1 : mI a1 = a1_j) {v_knownAt : Int32} {v_knownAt_j : Int} (t_v_knownAt : mI v_knownAt = v_knownAt_j) {v_without : Int32} {v_without_j : Int} (t_v_without : mI v_without = v_without_j) {v_voidAt : (Nat → Int32)} {v_voidAt_j : (Nat → Int)} (t_v_voidAt : mA v_voidAt = v_voidAt_j) : tl (mI) (iM_isKnown a1_j v_knownAt_j v_without_j v_voidAt_j) (pM_isKnown a1 v_knownAt v_without v_voidAt) := by
  subst t_a1
  subst t_v_knownAt
  subst t_v_without
  subst t_v_voidAt
  unfold iM_isKnown pM_isKnown
  refine tl_ite (jc_lt (Eq.refl (mI v_knownAt)) (Eq.refl (mI a1))) ?_ ?_
  · exact (tl_some jlitI_0)
  · refine tl_gd (jg_ib (Eq.refl (mI a1))) (fun _ => ?_)
    refine tl_ite (jc_eq (jrd (Eq.refl (mA v_voidAt)) (jx (Eq.refl (mI a1)))) jlitI_0) ?_ ?_
    · exact (t_pM_isKnown_b30 (Eq.refl (mI a1)) (Eq.refl (mI v_knownAt)) (Eq.refl (mI v_without)) (Eq.refl (mA v_voidAt)))
    · refine tl_ite (jc_le (jrd (Eq.refl (mA v_voidAt)) (jx (Eq.refl (mI a1)))) (Eq.refl (mI v_knownAt))) ?_ ?_
      · exact (tl_some jlitI_0)
      · exact (t_pM_isKnown_b30 (Eq.refl (mI a1)) (Eq.refl (mI v_knownAt)) (Eq.refl (mI v_without)) (Eq.refl (mA v_voidAt)))
theorem t_pM_writOf_b4_F {N N_j : Nat} (t_N : N = N_j) {a1 : Int32} {a1_j : Int} (t_a1 : mI a1 = a1_j) {v_acts : Int32} {v_acts_j : Int} (t_v_acts : mI v_acts = v_acts_j) {v_knownAt : Int32} {v_knownAt_j : Int} (t_v_knownAt : mI v_knownAt = v_knownAt_j) {v_without : Int32} {v_without_j : Int} (t_v_without : mI v_without = v_without_j) {v_actKind : (Nat → Int32)} {v_actKind_j : (Nat → Int)} (t_v_actKind : mA v_actKind = v_actKind_j) {v_actTerm : (Nat → Int32)} {v_actTerm_j : (Nat → Int)} (t_v_actTerm : mA v_actTerm = v_actTerm_j) {v_voidAt : (Nat → Int32)} {v_voidAt_j : (Nat → Int)} (t_v_voidAt : mA v_voidAt = v_voidAt_j) {self : Int32 → Int32 → Option R_pM_writOf} {self_j : Int → Int → Option Int} (t_self : ∀ (q0_ : Int32) (q1_ : Int32), tl (mI) (self_j (mI q0_) (mI q1_)) (self q0_ q1_)) {x2 : Int32} {x2_j : Int} (t_x2 : mI x2 = x2_j) {x3 : Int32} {x3_j : Int} (t_x3 : mI x3 = x3_j) : tl (mI) (iM_writOf_b4_F N_j a1_j v_acts_j v_knownAt_j v_without_j v_actKind_j v_actTerm_j v_voidAt_j self_j x2_j x3_j) (pM_writOf_b4_F N a1 v_acts v_knownAt v_without v_actKind v_actTerm v_voidAt self x2 x3) := by
  subst t_N
  subst t_a1
  subst t_v_acts
  subst t_v_knownAt
  subst t_v_without
  subst t_v_actKind
  subst t_v_actTerm
  subst t_v_voidAt
  subst t_x2
  subst t_x3
  unfold iM_writOf_b4_F pM_writOf_b4_F
  refine tl_ite (jc_lt (Eq.refl (mI v_acts)) (Eq.refl (mI x3))) ?_ ?_
  · exact (tl_some (Eq.refl (mI x2)))
  · refine tl_gd (jg_ib (Eq.refl (mI x3))) (fun _ => ?_)
    refine tl_ite (jc_eq (jrd (Eq.refl (mA v_actKind)) (jx (Eq.refl (mI x3)))) jlitI_1) ?_ ?_
    · refine tl_bd1 (t_pM_isKnown (Eq.refl (mI x3)) (Eq.refl (mI v_knownAt)) (Eq.refl (mI v_without)) (Eq.refl (mA v_voidAt))) (fun rc2 => ?_)
      refine tl_ite (jc_eq (Eq.refl (mI rc2)) jlitI_0) ?_ ?_
      · refine tl_g (fun h1 => ?_)
        exact (tl_e2 (Eq.refl (mI x2)) (ja_add (Eq.refl (mI x3)) jlitI_1 h1) (t_self _ _))
      · refine tl_ite (jc_lt (Eq.refl (mI a1)) (jrd (Eq.refl (mA v_actTerm)) (jx (Eq.refl (mI x3))))) ?_ ?_
        · refine tl_g (fun h2 => ?_)
          exact (tl_e2 (Eq.refl (mI x2)) (ja_add (Eq.refl (mI x3)) jlitI_1 h2) (t_self _ _))
        · refine tl_ite (jc_eq (Eq.refl (mI x2)) jlitI_0) ?_ ?_
          · refine tl_g (fun h3 => ?_)
            exact (tl_e2 (Eq.refl (mI x3)) (ja_add (Eq.refl (mI x3)) jlitI_1 h3) (t_self _ _))
          · refine tl_gd (jg_ib (Eq.refl (mI x2))) (fun _ => ?_)
            refine tl_ite (jc_lt (jrd (Eq.refl (mA v_actTerm)) (jx (Eq.refl (mI x3)))) (jrd (Eq.refl (mA v_actTerm)) (jx (Eq.refl (mI x2))))) ?_ ?_
            · refine tl_g (fun h4 => ?_)
              exact (tl_e2 (Eq.refl (mI x2)) (ja_add (Eq.refl (mI x3)) jlitI_1 h4) (t_self _ _))
            · refine tl_g (fun h5 => ?_)
              exact (tl_e2 (Eq.refl (mI x3)) (ja_add (Eq.refl (mI x3)) jlitI_1 h5) (t_self _ _))
    · refine tl_g (fun h6 => ?_)
      exact (tl_e2 (Eq.refl (mI x2)) (ja_add (Eq.refl (mI x3)) jlitI_1 h6) (t_self _ _))
theorem t_pM_writOf_b4 {N N_j : Nat} (t_N : N = N_j) {a1 : Int32} {a1_j : Int} (t_a1 : mI a1 = a1_j) {v_acts : Int32} {v_acts_j : Int} (t_v_acts : mI v_acts = v_acts_j) {v_knownAt : Int32} {v_knownAt_j : Int} (t_v_knownAt : mI v_knownAt = v_knownAt_j) {v_without : Int32} {v_without_j : Int} (t_v_without : mI v_without = v_without_j) {v_actKind : (Nat → Int32)} {v_actKind_j : (Nat → Int)} (t_v_actKind : mA v_actKind = v_actKind_j) {v_actTerm : (Nat → Int32)} {v_actTerm_j : (Nat → Int)} (t_v_actTerm : mA v_actTerm = v_actTerm_j) {v_voidAt : (Nat → Int32)} {v_voidAt_j : (Nat → Int)} (t_v_voidAt : mA v_voidAt = v_voidAt_j) {n n_j : Nat} (t_n : n = n_j) {w0_ : Int32} {w0__j : Int} (t_w0_ : mI w0_ = w0__j) {w1_ : Int32} {w1__j : Int} (t_w1_ : mI w1_ = w1__j) : tl (mI) (iM_writOf_b4 N_j a1_j v_acts_j v_knownAt_j v_without_j v_actKind_j v_actTerm_j v_voidAt_j n_j w0__j w1__j) (pM_writOf_b4 N a1 v_acts v_knownAt v_without v_actKind v_actTerm v_voidAt n w0_ w1_) := by
  subst t_N
  subst t_a1
  subst t_v_acts
  subst t_v_knownAt
  subst t_v_without
  subst t_v_actKind
  subst t_v_actTerm
  subst t_v_voidAt
  subst t_n
  subst t_w0_
  subst t_w1_
  exact tl_zlp2 (fun s2 s hs w0_ w1_ => t_pM_writOf_b4_F (Eq.refl N) (Eq.refl (mI a1)) (Eq.refl (mI v_acts)) (Eq.refl (mI v_knownAt)) (Eq.refl (mI v_without)) (Eq.refl (mA v_actKind)) (Eq.refl (mA v_actTerm)) (Eq.refl (mA v_voidAt)) hs (Eq.refl (mI w0_)) (Eq.refl (mI w1_))) n w0_ w1_
theorem t_pM_writOf {N N_j : Nat} (t_N : N = N_j) {a1 : Int32} {a1_j : Int} (t_a1 : mI a1 = a1_j) {v_acts : Int32} {v_acts_j : Int} (t_v_acts : mI v_acts = v_acts_j) {v_knownAt : Int32} {v_knownAt_j : Int} (t_v_knownAt : mI v_knownAt = v_knownAt_j) {v_without : Int32} {v_without_j : Int} (t_v_without : mI v_without = v_without_j) {v_actKind : (Nat → Int32)} {v_actKind_j : (Nat → Int)} (t_v_actKind : mA v_actKind = v_actKind_j) {v_actTerm : (Nat → Int32)} {v_actTerm_j : (Nat → Int)} (t_v_actTerm : mA v_actTerm = v_actTerm_j) {v_voidAt : (Nat → Int32)} {v_voidAt_j : (Nat → Int)} (t_v_voidAt : mA v_voidAt = v_voidAt_j) : tl (mI) (iM_writOf N_j a1_j v_acts_j v_knownAt_j v_without_j v_actKind_j v_actTerm_j v_voidAt_j) (pM_writOf N a1 v_acts v_knownAt v_without v_actKind v_actTerm v_voidAt) := by
  subst t_N
  subst t_a1
  subst t_v_acts
  subst t_v_knownAt
  subst t_v_without
  subst t_v_actKind
  subst t_v_actTerm
  subst t_v_voidAt
  unfold iM_writOf pM_writOf
  exact (t_pM_writOf_b4 (Eq.refl N) (Eq.refl (mI a1)) (Eq.refl (mI v_acts)) (Eq.refl (mI v_knownAt)) (Eq.refl (mI v_without)) (Eq.refl (mA v_actKind)) (Eq.refl (mA v_actTerm)) (Eq.refl (mA v_voidAt)) (Eq.refl N) jlitI_0 jlitI_1)
theorem t_pM_fireOf_b4_F {N N_j : Nat} (t_N : N = N_j) {a1 : Int32} {a1_j : Int} (t_a1 : mI a1 = a1_j) {v_acts : Int32} {v_acts_j : Int} (t_v_acts : mI v_acts = v_acts_j) {v_knownAt : Int32} {v_knownAt_j : Int} (t_v_knownAt : mI v_knownAt = v_knownAt_j) {v_without : Int32} {v_without_j : Int} (t_v_without : mI v_without = v_without_j) {v_actKind : (Nat → Int32)} {v_actKind_j : (Nat → Int)} (t_v_actKind : mA v_actKind = v_actKind_j) {v_actNumber : (Nat → Int32)} {v_actNumber_j : (Nat → Int)} (t_v_actNumber : mA v_actNumber = v_actNumber_j) {v_actTerm : (Nat → Int32)} {v_actTerm_j : (Nat → Int)} (t_v_actTerm : mA v_actTerm = v_actTerm_j) {v_voidAt : (Nat → Int32)} {v_voidAt_j : (Nat → Int)} (t_v_voidAt : mA v_voidAt = v_voidAt_j) {self : Int32 → Int32 → Option R_pM_fireOf} {self_j : Int → Int → Option Int} (t_self : ∀ (q0_ : Int32) (q1_ : Int32), tl (mI) (self_j (mI q0_) (mI q1_)) (self q0_ q1_)) {x2 : Int32} {x2_j : Int} (t_x2 : mI x2 = x2_j) {x3 : Int32} {x3_j : Int} (t_x3 : mI x3 = x3_j) : tl (mI) (iM_fireOf_b4_F N_j a1_j v_acts_j v_knownAt_j v_without_j v_actKind_j v_actNumber_j v_actTerm_j v_voidAt_j self_j x2_j x3_j) (pM_fireOf_b4_F N a1 v_acts v_knownAt v_without v_actKind v_actNumber v_actTerm v_voidAt self x2 x3) := by
  subst t_N
  subst t_a1
  subst t_v_acts
  subst t_v_knownAt
  subst t_v_without
  subst t_v_actKind
  subst t_v_actNumber
  subst t_v_actTerm
  subst t_v_voidAt
  subst t_x2
  subst t_x3
  unfold iM_fireOf_b4_F pM_fireOf_b4_F
  refine tl_ite (jc_lt (Eq.refl (mI v_acts)) (Eq.refl (mI x3))) ?_ ?_
  · exact (tl_some (Eq.refl (mI x2)))
  · refine tl_gd (jg_ib (Eq.refl (mI x3))) (fun _ => ?_)
    refine tl_ite (jc_eq (jrd (Eq.refl (mA v_actKind)) (jx (Eq.refl (mI x3)))) jlitI_4) ?_ ?_
    · refine tl_bd1 (t_pM_isKnown (Eq.refl (mI x3)) (Eq.refl (mI v_knownAt)) (Eq.refl (mI v_without)) (Eq.refl (mA v_voidAt))) (fun rc2 => ?_)
      refine tl_ite (jc_eq (Eq.refl (mI rc2)) jlitI_0) ?_ ?_
      · refine tl_g (fun h1 => ?_)
        exact (tl_e2 (Eq.refl (mI x2)) (ja_add (Eq.refl (mI x3)) jlitI_1 h1) (t_self _ _))
      · refine tl_ite (jc_eq (jrd (Eq.refl (mA v_actTerm)) (jx (Eq.refl (mI x3)))) (Eq.refl (mI a1))) ?_ ?_
        · refine tl_g (fun h2 => ?_)
          exact (tl_e2 (jrd (Eq.refl (mA v_actNumber)) (jx (Eq.refl (mI x3)))) (ja_add (Eq.refl (mI x3)) jlitI_1 h2) (t_self _ _))
        · refine tl_g (fun h3 => ?_)
          exact (tl_e2 (Eq.refl (mI x2)) (ja_add (Eq.refl (mI x3)) jlitI_1 h3) (t_self _ _))
    · refine tl_g (fun h4 => ?_)
      exact (tl_e2 (Eq.refl (mI x2)) (ja_add (Eq.refl (mI x3)) jlitI_1 h4) (t_self _ _))
theorem t_pM_fireOf_b4 {N N_j : Nat} (t_N : N = N_j) {a1 : Int32} {a1_j : Int} (t_a1 : mI a1 = a1_j) {v_acts : Int32} {v_acts_j : Int} (t_v_acts : mI v_acts = v_acts_j) {v_knownAt : Int32} {v_knownAt_j : Int} (t_v_knownAt : mI v_knownAt = v_knownAt_j) {v_without : Int32} {v_without_j : Int} (t_v_without : mI v_without = v_without_j) {v_actKind : (Nat → Int32)} {v_actKind_j : (Nat → Int)} (t_v_actKind : mA v_actKind = v_actKind_j) {v_actNumber : (Nat → Int32)} {v_actNumber_j : (Nat → Int)} (t_v_actNumber : mA v_actNumber = v_actNumber_j) {v_actTerm : (Nat → Int32)} {v_actTerm_j : (Nat → Int)} (t_v_actTerm : mA v_actTerm = v_actTerm_j) {v_voidAt : (Nat → Int32)} {v_voidAt_j : (Nat → Int)} (t_v_voidAt : mA v_voidAt = v_voidAt_j) {n n_j : Nat} (t_n : n = n_j) {w0_ : Int32} {w0__j : Int} (t_w0_ : mI w0_ = w0__j) {w1_ : Int32} {w1__j : Int} (t_w1_ : mI w1_ = w1__j) : tl (mI) (iM_fireOf_b4 N_j a1_j v_acts_j v_knownAt_j v_without_j v_actKind_j v_actNumber_j v_actTerm_j v_voidAt_j n_j w0__j w1__j) (pM_fireOf_b4 N a1 v_acts v_knownAt v_without v_actKind v_actNumber v_actTerm v_voidAt n w0_ w1_) := by
  subst t_N
  subst t_a1
  subst t_v_acts
  subst t_v_knownAt
  subst t_v_without
  subst t_v_actKind
  subst t_v_actNumber
  subst t_v_actTerm
  subst t_v_voidAt
  subst t_n
  subst t_w0_
  subst t_w1_
  exact tl_zlp2 (fun s2 s hs w0_ w1_ => t_pM_fireOf_b4_F (Eq.refl N) (Eq.refl (mI a1)) (Eq.refl (mI v_acts)) (Eq.refl (mI v_knownAt)) (Eq.refl (mI v_without)) (Eq.refl (mA v_actKind)) (Eq.refl (mA v_actNumber)) (Eq.refl (mA v_actTerm)) (Eq.refl (mA v_voidAt)) hs (Eq.refl (mI w0_)) (Eq.refl (mI w1_))) n w0_ w1_
theorem t_pM_fireOf {N N_j : Nat} (t_N : N = N_j) {a1 : Int32} {a1_j : Int} (t_a1 : mI a1 = a1_j) {v_acts : Int32} {v_acts_j : Int} (t_v_acts : mI v_acts = v_acts_j) {v_knownAt : Int32} {v_knownAt_j : Int} (t_v_knownAt : mI v_knownAt = v_knownAt_j) {v_without : Int32} {v_without_j : Int} (t_v_without : mI v_without = v_without_j) {v_actKind : (Nat → Int32)} {v_actKind_j : (Nat → Int)} (t_v_actKind : mA v_actKind = v_actKind_j) {v_actNumber : (Nat → Int32)} {v_actNumber_j : (Nat → Int)} (t_v_actNumber : mA v_actNumber = v_actNumber_j) {v_actTerm : (Nat → Int32)} {v_actTerm_j : (Nat → Int)} (t_v_actTerm : mA v_actTerm = v_actTerm_j) {v_voidAt : (Nat → Int32)} {v_voidAt_j : (Nat → Int)} (t_v_voidAt : mA v_voidAt = v_voidAt_j) : tl (mI) (iM_fireOf N_j a1_j v_acts_j v_knownAt_j v_without_j v_actKind_j v_actNumber_j v_actTerm_j v_voidAt_j) (pM_fireOf N a1 v_acts v_knownAt v_without v_actKind v_actNumber v_actTerm v_voidAt) := by
  subst t_N
  subst t_a1
  subst t_v_acts
  subst t_v_knownAt
  subst t_v_without
  subst t_v_actKind
  subst t_v_actNumber
  subst t_v_actTerm
  subst t_v_voidAt
  unfold iM_fireOf pM_fireOf
  exact (t_pM_fireOf_b4 (Eq.refl N) (Eq.refl (mI a1)) (Eq.refl (mI v_acts)) (Eq.refl (mI v_knownAt)) (Eq.refl (mI v_without)) (Eq.refl (mA v_actKind)) (Eq.refl (mA v_actNumber)) (Eq.refl (mA v_actTerm)) (Eq.refl (mA v_voidAt)) (Eq.refl N) jlitI_0 jlitI_1)
theorem t_pM_tellsAsKnown {a1 : Int32} {a1_j : Int} (t_a1 : mI a1 = a1_j) {v_knownAt : Int32} {v_knownAt_j : Int} (t_v_knownAt : mI v_knownAt = v_knownAt_j) {v_movedAct : Int32} {v_movedAct_j : Int} (t_v_movedAct : mI v_movedAct = v_movedAct_j) {v_without : Int32} {v_without_j : Int} (t_v_without : mI v_without = v_without_j) : tl (mP mI (mP mI mI)) (iM_tellsAsKnown a1_j v_knownAt_j v_movedAct_j v_without_j) (pM_tellsAsKnown a1 v_knownAt v_movedAct v_without) := by
  subst t_a1
  subst t_v_knownAt
  subst t_v_movedAct
  subst t_v_without
  unfold iM_tellsAsKnown pM_tellsAsKnown
  exact (tl_some (jp2 (Eq.refl (mI a1)) (jp2 jlitI_m1 jlitI_m1)))
theorem t_pM_force {N N_j : Nat} (t_N : N = N_j) {a1 : Int32} {a1_j : Int} (t_a1 : mI a1 = a1_j) {v_acts : Int32} {v_acts_j : Int} (t_v_acts : mI v_acts = v_acts_j) {v_as : Int32} {v_as_j : Int} (t_v_as : mI v_as = v_as_j) {v_knownAt : Int32} {v_knownAt_j : Int} (t_v_knownAt : mI v_knownAt = v_knownAt_j) {v_movedAct : Int32} {v_movedAct_j : Int} (t_v_movedAct : mI v_movedAct = v_movedAct_j) {v_without : Int32} {v_without_j : Int} (t_v_without : mI v_without = v_without_j) {v_actKind : (Nat → Int32)} {v_actKind_j : (Nat → Int)} (t_v_actKind : mA v_actKind = v_actKind_j) {v_actTerm : (Nat → Int32)} {v_actTerm_j : (Nat → Int)} (t_v_actTerm : mA v_actTerm = v_actTerm_j) {v_many : (Nat → Int32)} {v_many_j : (Nat → Int)} (t_v_many : mA v_many = v_many_j) {v_voidAt : (Nat → Int32)} {v_voidAt_j : (Nat → Int)} (t_v_voidAt : mA v_voidAt = v_voidAt_j) : tl (mP mI (mP mI (mP mI mI))) (iM_force N_j a1_j v_acts_j v_as_j v_knownAt_j v_movedAct_j v_without_j v_actKind_j v_actTerm_j v_many_j v_voidAt_j) (pM_force N a1 v_acts v_as v_knownAt v_movedAct v_without v_actKind v_actTerm v_many v_voidAt) := by
  subst t_N
  subst t_a1
  subst t_v_acts
  subst t_v_as
  subst t_v_knownAt
  subst t_v_movedAct
  subst t_v_without
  subst t_v_actKind
  subst t_v_actTerm
  subst t_v_many
  subst t_v_voidAt
  unfold iM_force pM_force
  refine tl_bd1 (t_pM_isTerm (Eq.refl (mI a1))) (fun rc1 => ?_)
  refine tl_ite (jc_eq (Eq.refl (mI rc1)) jlitI_0) ?_ ?_
  · exact (tl_some (jp2 jlitI_m1 (jp2 (Eq.refl (mI v_knownAt)) (jp2 (Eq.refl (mI v_movedAct)) (Eq.refl (mI v_without))))))
  · refine tl_bd1 (t_pM_asNow (Eq.refl (mI v_acts)) (Eq.refl (mI v_as))) (fun rc2 => ?_)
    refine tl_bd3 (t_pM_tellsAsKnown (Eq.refl (mI rc2)) (Eq.refl (mI v_knownAt)) (Eq.refl (mI v_movedAct)) (Eq.refl (mI v_without))) (fun v_knownAt_c3 v_movedAct_c3 v_without_c3 => ?_)
    refine tl_bd1 (t_pM_writOf (Eq.refl N) (Eq.refl (mI a1)) (Eq.refl (mI v_acts)) (Eq.refl (mI v_knownAt_c3)) (Eq.refl (mI v_without_c3)) (Eq.refl (mA v_actKind)) (Eq.refl (mA v_actTerm)) (Eq.refl (mA v_voidAt))) (fun rc4 => ?_)
    refine tl_ite (jc_eq (Eq.refl (mI rc4)) jlitI_0) ?_ ?_
    · exact (tl_some (jp2 jlitI_m1 (jp2 (Eq.refl (mI v_knownAt_c3)) (jp2 (Eq.refl (mI v_movedAct_c3)) (Eq.refl (mI v_without_c3))))))
    · refine tl_gd (jg_ib (Eq.refl (mI rc4))) (fun _ => ?_)
      exact (tl_some (jp2 (jrd (Eq.refl (mA v_many)) (jx (Eq.refl (mI rc4)))) (jp2 (Eq.refl (mI v_knownAt_c3)) (jp2 (Eq.refl (mI v_movedAct_c3)) (Eq.refl (mI v_without_c3))))))
theorem t_pM_holds {N N_j : Nat} (t_N : N = N_j) {a1 : Int32} {a1_j : Int} (t_a1 : mI a1 = a1_j) {a2 : Int32} {a2_j : Int} (t_a2 : mI a2 = a2_j) {v_debt : Int64} {v_debt_j : Int} (t_v_debt : mJ v_debt = v_debt_j) {v_now : Int32} {v_now_j : Int} (t_v_now : mI v_now = v_now_j) {v_paid : Int64} {v_paid_j : Int} (t_v_paid : mJ v_paid = v_paid_j) {v_piled : Int32} {v_piled_j : Int} (t_v_piled : mI v_piled = v_piled_j) {v_shireNow : Int32} {v_shireNow_j : Int} (t_v_shireNow : mI v_shireNow = v_shireNow_j) {v_codes : (Nat → Int32)} {v_codes_j : (Nat → Int)} (t_v_codes : mA v_codes = v_codes_j) {v_pile : (Nat → Int64)} {v_pile_j : (Nat → Int)} (t_v_pile : mL v_pile = v_pile_j) {v_sumEnd : (Nat → Int32)} {v_sumEnd_j : (Nat → Int)} (t_v_sumEnd : mA v_sumEnd = v_sumEnd_j) {v_testEnd : (Nat → Int32)} {v_testEnd_j : (Nat → Int)} (t_v_testEnd : mA v_testEnd = v_testEnd_j) : tl (mP mI (mP mI mL)) (iM_holds N_j a1_j a2_j v_debt_j v_now_j v_paid_j v_piled_j v_shireNow_j v_codes_j v_pile_j v_sumEnd_j v_testEnd_j) (pM_holds N a1 a2 v_debt v_now v_paid v_piled v_shireNow v_codes v_pile v_sumEnd v_testEnd) := by
  subst t_N
  subst t_a1
  subst t_a2
  subst t_v_debt
  subst t_v_now
  subst t_v_paid
  subst t_v_piled
  subst t_v_shireNow
  subst t_v_codes
  subst t_v_pile
  subst t_v_sumEnd
  subst t_v_testEnd
  unfold iM_holds pM_holds
  refine tl_gd (jg_ib (Eq.refl (mI a2))) (fun _ => ?_)
  refine tl_bd3 (t_pM_tells (Eq.refl N) (Eq.refl (mI a1)) (jrd (Eq.refl (mA v_sumEnd)) (jx (Eq.refl (mI a2)))) (jrd (Eq.refl (mA v_testEnd)) (jx (Eq.refl (mI a2)))) (Eq.refl (mJ v_debt)) (Eq.refl (mI v_now)) (Eq.refl (mJ v_paid)) (Eq.refl (mI v_piled)) (Eq.refl (mI v_shireNow)) (Eq.refl (mA v_codes)) (Eq.refl (mL v_pile))) (fun rc2 v_piled_c2 v_pile_c2 => ?_)
  refine tl_ite (jk_eq (Eq.refl (mJ rc2)) jlitJ_1) ?_ ?_
  · exact (tl_some (jp2 jlitI_1 (jp2 (Eq.refl (mI v_piled_c2)) (Eq.refl (mL v_pile_c2)))))
  · exact (tl_some (jp2 jlitI_0 (jp2 (Eq.refl (mI v_piled_c2)) (Eq.refl (mL v_pile_c2)))))
theorem t_pM_amount {N N_j : Nat} (t_N : N = N_j) {a1 : Int32} {a1_j : Int} (t_a1 : mI a1 = a1_j) {a2 : Int32} {a2_j : Int} (t_a2 : mI a2 = a2_j) {v_debt : Int64} {v_debt_j : Int} (t_v_debt : mJ v_debt = v_debt_j) {v_now : Int32} {v_now_j : Int} (t_v_now : mI v_now = v_now_j) {v_paid : Int64} {v_paid_j : Int} (t_v_paid : mJ v_paid = v_paid_j) {v_piled : Int32} {v_piled_j : Int} (t_v_piled : mI v_piled = v_piled_j) {v_shireNow : Int32} {v_shireNow_j : Int} (t_v_shireNow : mI v_shireNow = v_shireNow_j) {v_codes : (Nat → Int32)} {v_codes_j : (Nat → Int)} (t_v_codes : mA v_codes = v_codes_j) {v_pile : (Nat → Int64)} {v_pile_j : (Nat → Int)} (t_v_pile : mL v_pile = v_pile_j) {v_sumEnd : (Nat → Int32)} {v_sumEnd_j : (Nat → Int)} (t_v_sumEnd : mA v_sumEnd = v_sumEnd_j) {v_sumFrom : (Nat → Int32)} {v_sumFrom_j : (Nat → Int)} (t_v_sumFrom : mA v_sumFrom = v_sumFrom_j) : tl (mP mJ (mP mI mL)) (iM_amount N_j a1_j a2_j v_debt_j v_now_j v_paid_j v_piled_j v_shireNow_j v_codes_j v_pile_j v_sumEnd_j v_sumFrom_j) (pM_amount N a1 a2 v_debt v_now v_paid v_piled v_shireNow v_codes v_pile v_sumEnd v_sumFrom) := by
  subst t_N
  subst t_a1
  subst t_a2
  subst t_v_debt
  subst t_v_now
  subst t_v_paid
  subst t_v_piled
  subst t_v_shireNow
  subst t_v_codes
  subst t_v_pile
  subst t_v_sumEnd
  subst t_v_sumFrom
  unfold iM_amount pM_amount
  refine tl_gd (jg_ib (Eq.refl (mI a2))) (fun _ => ?_)
  refine tl_bd3 (t_pM_tells (Eq.refl N) (Eq.refl (mI a1)) (jrd (Eq.refl (mA v_sumFrom)) (jx (Eq.refl (mI a2)))) (jrd (Eq.refl (mA v_sumEnd)) (jx (Eq.refl (mI a2)))) (Eq.refl (mJ v_debt)) (Eq.refl (mI v_now)) (Eq.refl (mJ v_paid)) (Eq.refl (mI v_piled)) (Eq.refl (mI v_shireNow)) (Eq.refl (mA v_codes)) (Eq.refl (mL v_pile))) (fun rc2 v_piled_c2 v_pile_c2 => ?_)
  refine tl_ite (jk_ge (Eq.refl (mJ rc2)) jlitJ_0) ?_ ?_
  · exact (tl_some (jp2 (Eq.refl (mJ rc2)) (jp2 (Eq.refl (mI v_piled_c2)) (Eq.refl (mL v_pile_c2)))))
  · exact (tl_some (jp2 jlitJ_0 (jp2 (Eq.refl (mI v_piled_c2)) (Eq.refl (mL v_pile_c2)))))
theorem t_pM_does_b102 {N N_j : Nat} (t_N : N = N_j) {a1 : Int32} {a1_j : Int} (t_a1 : mI a1 = a1_j) {a2 : Int32} {a2_j : Int} (t_a2 : mI a2 = a2_j) {v_now : Int32} {v_now_j : Int} (t_v_now : mI v_now = v_now_j) {v_paid : Int64} {v_paid_j : Int} (t_v_paid : mJ v_paid = v_paid_j) {v_shireNow : Int32} {v_shireNow_j : Int} (t_v_shireNow : mI v_shireNow = v_shireNow_j) {v_codes : (Nat → Int32)} {v_codes_j : (Nat → Int)} (t_v_codes : mA v_codes = v_codes_j) {v_first : (Nat → Int32)} {v_first_j : (Nat → Int)} (t_v_first : mA v_first = v_first_j) {v_isBlanched : (Nat → Int32)} {v_isBlanched_j : (Nat → Int)} (t_v_isBlanched : mA v_isBlanched = v_isBlanched_j) {v_many : (Nat → Int32)} {v_many_j : (Nat → Int)} (t_v_many : mA v_many = v_many_j) {v_second : (Nat → Int32)} {v_second_j : (Nat → Int)} (t_v_second : mA v_second = v_second_j) {v_sort : (Nat → Int32)} {v_sort_j : (Nat → Int)} (t_v_sort : mA v_sort = v_sort_j) {v_sumEnd : (Nat → Int32)} {v_sumEnd_j : (Nat → Int)} (t_v_sumEnd : mA v_sumEnd = v_sumEnd_j) {v_sumFrom : (Nat → Int32)} {v_sumFrom_j : (Nat → Int)} (t_v_sumFrom : mA v_sumFrom = v_sumFrom_j) {v_testEnd : (Nat → Int32)} {v_testEnd_j : (Nat → Int)} (t_v_testEnd : mA v_testEnd = v_testEnd_j) {self : Int32 → Int64 → Int64 → Int64 → Int32 → Int64 → Int32 → (Nat → Int64) → (Nat → Int64) → Option R_pM_does} {self_j : Int → Int → Int → Int → Int → Int → Int → (Nat → Int) → (Nat → Int) → Option R_iM_does} (t_self : ∀ (q0_ : Int32) (q1_ : Int64) (q2_ : Int64) (q3_ : Int64) (q4_ : Int32) (q5_ : Int64) (q6_ : Int32) (q7_ : (Nat → Int64)) (q8_ : (Nat → Int64)), tl (mP mJ (mP mJ (mP mJ (mP mI (mP mJ (mP mI (mP mL mL))))))) (self_j (mI q0_) (mJ q1_) (mJ q2_) (mJ q3_) (mI q4_) (mJ q5_) (mI q6_) (mL q7_) (mL q8_)) (self q0_ q1_ q2_ q3_ q4_ q5_ q6_ q7_ q8_)) {x3 : Int32} {x3_j : Int} (t_x3 : mI x3 = x3_j) {s1 : Int32} {s1_j : Int} (t_s1 : mI s1 = s1_j) {v_allowed : Int64} {v_allowed_j : Int} (t_v_allowed : mJ v_allowed = v_allowed_j) {v_debt : Int64} {v_debt_j : Int} (t_v_debt : mJ v_debt = v_debt_j) {v_farms : Int64} {v_farms_j : Int} (t_v_farms : mJ v_farms = v_farms_j) {v_isBlanchedNow : Int32} {v_isBlanchedNow_j : Int} (t_v_isBlanchedNow : mI v_isBlanchedNow = v_isBlanchedNow_j) {v_pardoned : Int64} {v_pardoned_j : Int} (t_v_pardoned : mJ v_pardoned = v_pardoned_j) {v_piled : Int32} {v_piled_j : Int} (t_v_piled : mI v_piled = v_piled_j) {v_off : (Nat → Int64)} {v_off_j : (Nat → Int)} (t_v_off : mL v_off = v_off_j) {v_pile : (Nat → Int64)} {v_pile_j : (Nat → Int)} (t_v_pile : mL v_pile = v_pile_j) : tl (mP mJ (mP mJ (mP mJ (mP mI (mP mJ (mP mI (mP mL mL))))))) (iM_does_b102 N_j a1_j a2_j v_now_j v_paid_j v_shireNow_j v_codes_j v_first_j v_isBlanched_j v_many_j v_second_j v_sort_j v_sumEnd_j v_sumFrom_j v_testEnd_j self_j x3_j s1_j v_allowed_j v_debt_j v_farms_j v_isBlanchedNow_j v_pardoned_j v_piled_j v_off_j v_pile_j) (pM_does_b102 N a1 a2 v_now v_paid v_shireNow v_codes v_first v_isBlanched v_many v_second v_sort v_sumEnd v_sumFrom v_testEnd self x3 s1 v_allowed v_debt v_farms v_isBlanchedNow v_pardoned v_piled v_off v_pile) := by
  subst t_N
  subst t_a1
  subst t_a2
  subst t_v_now
  subst t_v_paid
  subst t_v_shireNow
  subst t_v_codes
  subst t_v_first
  subst t_v_isBlanched
  subst t_v_many
  subst t_v_second
  subst t_v_sort
  subst t_v_sumEnd
  subst t_v_sumFrom
  subst t_v_testEnd
  subst t_x3
  subst t_s1
  subst t_v_allowed
  subst t_v_debt
  subst t_v_farms
  subst t_v_isBlanchedNow
  subst t_v_pardoned
  subst t_v_piled
  subst t_v_off
  subst t_v_pile
  unfold iM_does_b102 pM_does_b102
  refine tl_gd (jg_isB (Eq.refl (mI s1))) (fun _ => ?_)
  refine tl_g (fun h1 => ?_)
  exact (tl_e9 (ja_add (Eq.refl (mI x3)) jlitI_1 h1) (Eq.refl (mJ v_allowed)) (Eq.refl (mJ v_debt)) (Eq.refl (mJ v_farms)) (Eq.refl (mI s1)) (Eq.refl (mJ v_pardoned)) (Eq.refl (mI v_piled)) (Eq.refl (mL v_off)) (Eq.refl (mL v_pile)) (t_self _ _ _ _ _ _ _ _ _))
theorem t_pM_does_b246_F {N N_j : Nat} (t_N : N = N_j) {a1 : Int32} {a1_j : Int} (t_a1 : mI a1 = a1_j) {a2 : Int32} {a2_j : Int} (t_a2 : mI a2 = a2_j) {v_now : Int32} {v_now_j : Int} (t_v_now : mI v_now = v_now_j) {v_paid : Int64} {v_paid_j : Int} (t_v_paid : mJ v_paid = v_paid_j) {v_shireNow : Int32} {v_shireNow_j : Int} (t_v_shireNow : mI v_shireNow = v_shireNow_j) {v_codes : (Nat → Int32)} {v_codes_j : (Nat → Int)} (t_v_codes : mA v_codes = v_codes_j) {v_first : (Nat → Int32)} {v_first_j : (Nat → Int)} (t_v_first : mA v_first = v_first_j) {v_isBlanched : (Nat → Int32)} {v_isBlanched_j : (Nat → Int)} (t_v_isBlanched : mA v_isBlanched = v_isBlanched_j) {v_many : (Nat → Int32)} {v_many_j : (Nat → Int)} (t_v_many : mA v_many = v_many_j) {v_second : (Nat → Int32)} {v_second_j : (Nat → Int)} (t_v_second : mA v_second = v_second_j) {v_sort : (Nat → Int32)} {v_sort_j : (Nat → Int)} (t_v_sort : mA v_sort = v_sort_j) {v_sumEnd : (Nat → Int32)} {v_sumEnd_j : (Nat → Int)} (t_v_sumEnd : mA v_sumEnd = v_sumEnd_j) {v_sumFrom : (Nat → Int32)} {v_sumFrom_j : (Nat → Int)} (t_v_sumFrom : mA v_sumFrom = v_sumFrom_j) {v_testEnd : (Nat → Int32)} {v_testEnd_j : (Nat → Int)} (t_v_testEnd : mA v_testEnd = v_testEnd_j) {x3 : Int32} {x3_j : Int} (t_x3 : mI x3 = x3_j) {x4 : Int32} {x4_j : Int} (t_x4 : mI x4 = x4_j) {x5 : Int64} {x5_j : Int} (t_x5 : mJ x5 = x5_j) {v_allowed : Int64} {v_allowed_j : Int} (t_v_allowed : mJ v_allowed = v_allowed_j) {v_debt : Int64} {v_debt_j : Int} (t_v_debt : mJ v_debt = v_debt_j) {v_farms : Int64} {v_farms_j : Int} (t_v_farms : mJ v_farms = v_farms_j) {v_isBlanchedNow : Int32} {v_isBlanchedNow_j : Int} (t_v_isBlanchedNow : mI v_isBlanchedNow = v_isBlanchedNow_j) {v_pardoned : Int64} {v_pardoned_j : Int} (t_v_pardoned : mJ v_pardoned = v_pardoned_j) {v_piled : Int32} {v_piled_j : Int} (t_v_piled : mI v_piled = v_piled_j) {v_pile : (Nat → Int64)} {v_pile_j : (Nat → Int)} (t_v_pile : mL v_pile = v_pile_j) {k281 : (Nat → Int64) → Option R_pM_does} {k281_j : (Nat → Int) → Option R_iM_does} (t_k281 : ∀ (q0_ : (Nat → Int64)), tl (mP mJ (mP mJ (mP mJ (mP mI (mP mJ (mP mI (mP mL mL))))))) (k281_j (mL q0_)) (k281 q0_)) {self : Int32 → (Nat → Int64) → Option R_pM_does} {self_j : Int → (Nat → Int) → Option R_iM_does} (t_self : ∀ (q0_ : Int32) (q1_ : (Nat → Int64)), tl (mP mJ (mP mJ (mP mJ (mP mI (mP mJ (mP mI (mP mL mL))))))) (self_j (mI q0_) (mL q1_)) (self q0_ q1_)) {x7 : Int32} {x7_j : Int} (t_x7 : mI x7 = x7_j) {v_off : (Nat → Int64)} {v_off_j : (Nat → Int)} (t_v_off : mL v_off = v_off_j) : tl (mP mJ (mP mJ (mP mJ (mP mI (mP mJ (mP mI (mP mL mL))))))) (iM_does_b246_F N_j a1_j a2_j v_now_j v_paid_j v_shireNow_j v_codes_j v_first_j v_isBlanched_j v_many_j v_second_j v_sort_j v_sumEnd_j v_sumFrom_j v_testEnd_j x3_j x4_j x5_j v_allowed_j v_debt_j v_farms_j v_isBlanchedNow_j v_pardoned_j v_piled_j v_pile_j k281_j self_j x7_j v_off_j) (pM_does_b246_F N a1 a2 v_now v_paid v_shireNow v_codes v_first v_isBlanched v_many v_second v_sort v_sumEnd v_sumFrom v_testEnd x3 x4 x5 v_allowed v_debt v_farms v_isBlanchedNow v_pardoned v_piled v_pile k281 self x7 v_off) := by
  subst t_N
  subst t_a1
  subst t_a2
  subst t_v_now
  subst t_v_paid
  subst t_v_shireNow
  subst t_v_codes
  subst t_v_first
  subst t_v_isBlanched
  subst t_v_many
  subst t_v_second
  subst t_v_sort
  subst t_v_sumEnd
  subst t_v_sumFrom
  subst t_v_testEnd
  subst t_x3
  subst t_x4
  subst t_x5
  subst t_v_allowed
  subst t_v_debt
  subst t_v_farms
  subst t_v_isBlanchedNow
  subst t_v_pardoned
  subst t_v_piled
  subst t_v_pile
  subst t_x7
  subst t_v_off
  unfold iM_does_b246_F pM_does_b246_F
  refine tl_gd (jg_ib (Eq.refl (mI x4))) (fun _ => ?_)
  refine tl_ite (jc_le (jrd (Eq.refl (mA v_first)) (jx (Eq.refl (mI x4)))) (Eq.refl (mI x7))) ?_ ?_
  · exact (tl_e1 (Eq.refl (mL v_off)) (t_k281 _))
  · refine tl_g (fun h1 => ?_)
    refine tl_gd (jg_ib (ja_add (Eq.refl (mI v_now)) (Eq.refl (mI x7)) h1)) (fun _ => ?_)
    refine tl_g (fun h2 => ?_)
    refine tl_g (fun h3 => ?_)
    exact (tl_e2 (ja_add (Eq.refl (mI x7)) jlitI_1 h2) (jupL (Eq.refl (mL v_off)) (jx (ja_add (Eq.refl (mI v_now)) (Eq.refl (mI x7)) h1)) (jL_add (jrdL (Eq.refl (mL v_off)) (jx (ja_add (Eq.refl (mI v_now)) (Eq.refl (mI x7)) h1))) (Eq.refl (mJ x5)) h3)) (t_self _ _))
theorem t_pM_does_b246 {N N_j : Nat} (t_N : N = N_j) {a1 : Int32} {a1_j : Int} (t_a1 : mI a1 = a1_j) {a2 : Int32} {a2_j : Int} (t_a2 : mI a2 = a2_j) {v_now : Int32} {v_now_j : Int} (t_v_now : mI v_now = v_now_j) {v_paid : Int64} {v_paid_j : Int} (t_v_paid : mJ v_paid = v_paid_j) {v_shireNow : Int32} {v_shireNow_j : Int} (t_v_shireNow : mI v_shireNow = v_shireNow_j) {v_codes : (Nat → Int32)} {v_codes_j : (Nat → Int)} (t_v_codes : mA v_codes = v_codes_j) {v_first : (Nat → Int32)} {v_first_j : (Nat → Int)} (t_v_first : mA v_first = v_first_j) {v_isBlanched : (Nat → Int32)} {v_isBlanched_j : (Nat → Int)} (t_v_isBlanched : mA v_isBlanched = v_isBlanched_j) {v_many : (Nat → Int32)} {v_many_j : (Nat → Int)} (t_v_many : mA v_many = v_many_j) {v_second : (Nat → Int32)} {v_second_j : (Nat → Int)} (t_v_second : mA v_second = v_second_j) {v_sort : (Nat → Int32)} {v_sort_j : (Nat → Int)} (t_v_sort : mA v_sort = v_sort_j) {v_sumEnd : (Nat → Int32)} {v_sumEnd_j : (Nat → Int)} (t_v_sumEnd : mA v_sumEnd = v_sumEnd_j) {v_sumFrom : (Nat → Int32)} {v_sumFrom_j : (Nat → Int)} (t_v_sumFrom : mA v_sumFrom = v_sumFrom_j) {v_testEnd : (Nat → Int32)} {v_testEnd_j : (Nat → Int)} (t_v_testEnd : mA v_testEnd = v_testEnd_j) {x3 : Int32} {x3_j : Int} (t_x3 : mI x3 = x3_j) {x4 : Int32} {x4_j : Int} (t_x4 : mI x4 = x4_j) {x5 : Int64} {x5_j : Int} (t_x5 : mJ x5 = x5_j) {v_allowed : Int64} {v_allowed_j : Int} (t_v_allowed : mJ v_allowed = v_allowed_j) {v_debt : Int64} {v_debt_j : Int} (t_v_debt : mJ v_debt = v_debt_j) {v_farms : Int64} {v_farms_j : Int} (t_v_farms : mJ v_farms = v_farms_j) {v_isBlanchedNow : Int32} {v_isBlanchedNow_j : Int} (t_v_isBlanchedNow : mI v_isBlanchedNow = v_isBlanchedNow_j) {v_pardoned : Int64} {v_pardoned_j : Int} (t_v_pardoned : mJ v_pardoned = v_pardoned_j) {v_piled : Int32} {v_piled_j : Int} (t_v_piled : mI v_piled = v_piled_j) {v_pile : (Nat → Int64)} {v_pile_j : (Nat → Int)} (t_v_pile : mL v_pile = v_pile_j) {k281 : (Nat → Int64) → Option R_pM_does} {k281_j : (Nat → Int) → Option R_iM_does} (t_k281 : ∀ (q0_ : (Nat → Int64)), tl (mP mJ (mP mJ (mP mJ (mP mI (mP mJ (mP mI (mP mL mL))))))) (k281_j (mL q0_)) (k281 q0_)) {n n_j : Nat} (t_n : n = n_j) {w0_ : Int32} {w0__j : Int} (t_w0_ : mI w0_ = w0__j) {w1_ : (Nat → Int64)} {w1__j : (Nat → Int)} (t_w1_ : mL w1_ = w1__j) : tl (mP mJ (mP mJ (mP mJ (mP mI (mP mJ (mP mI (mP mL mL))))))) (iM_does_b246 N_j a1_j a2_j v_now_j v_paid_j v_shireNow_j v_codes_j v_first_j v_isBlanched_j v_many_j v_second_j v_sort_j v_sumEnd_j v_sumFrom_j v_testEnd_j x3_j x4_j x5_j v_allowed_j v_debt_j v_farms_j v_isBlanchedNow_j v_pardoned_j v_piled_j v_pile_j k281_j n_j w0__j w1__j) (pM_does_b246 N a1 a2 v_now v_paid v_shireNow v_codes v_first v_isBlanched v_many v_second v_sort v_sumEnd v_sumFrom v_testEnd x3 x4 x5 v_allowed v_debt v_farms v_isBlanchedNow v_pardoned v_piled v_pile k281 n w0_ w1_) := by
  subst t_N
  subst t_a1
  subst t_a2
  subst t_v_now
  subst t_v_paid
  subst t_v_shireNow
  subst t_v_codes
  subst t_v_first
  subst t_v_isBlanched
  subst t_v_many
  subst t_v_second
  subst t_v_sort
  subst t_v_sumEnd
  subst t_v_sumFrom
  subst t_v_testEnd
  subst t_x3
  subst t_x4
  subst t_x5
  subst t_v_allowed
  subst t_v_debt
  subst t_v_farms
  subst t_v_isBlanchedNow
  subst t_v_pardoned
  subst t_v_piled
  subst t_v_pile
  subst t_n
  subst t_w0_
  subst t_w1_
  exact tl_zlp2 (fun s2 s hs w0_ w1_ => t_pM_does_b246_F (Eq.refl N) (Eq.refl (mI a1)) (Eq.refl (mI a2)) (Eq.refl (mI v_now)) (Eq.refl (mJ v_paid)) (Eq.refl (mI v_shireNow)) (Eq.refl (mA v_codes)) (Eq.refl (mA v_first)) (Eq.refl (mA v_isBlanched)) (Eq.refl (mA v_many)) (Eq.refl (mA v_second)) (Eq.refl (mA v_sort)) (Eq.refl (mA v_sumEnd)) (Eq.refl (mA v_sumFrom)) (Eq.refl (mA v_testEnd)) (Eq.refl (mI x3)) (Eq.refl (mI x4)) (Eq.refl (mJ x5)) (Eq.refl (mJ v_allowed)) (Eq.refl (mJ v_debt)) (Eq.refl (mJ v_farms)) (Eq.refl (mI v_isBlanchedNow)) (Eq.refl (mJ v_pardoned)) (Eq.refl (mI v_piled)) (Eq.refl (mL v_pile)) t_k281 hs (Eq.refl (mI w0_)) (Eq.refl (mL w1_))) n w0_ w1_
theorem t_pM_does_b281 {N N_j : Nat} (t_N : N = N_j) {a1 : Int32} {a1_j : Int} (t_a1 : mI a1 = a1_j) {a2 : Int32} {a2_j : Int} (t_a2 : mI a2 = a2_j) {v_now : Int32} {v_now_j : Int} (t_v_now : mI v_now = v_now_j) {v_paid : Int64} {v_paid_j : Int} (t_v_paid : mJ v_paid = v_paid_j) {v_shireNow : Int32} {v_shireNow_j : Int} (t_v_shireNow : mI v_shireNow = v_shireNow_j) {v_codes : (Nat → Int32)} {v_codes_j : (Nat → Int)} (t_v_codes : mA v_codes = v_codes_j) {v_first : (Nat → Int32)} {v_first_j : (Nat → Int)} (t_v_first : mA v_first = v_first_j) {v_isBlanched : (Nat → Int32)} {v_isBlanched_j : (Nat → Int)} (t_v_isBlanched : mA v_isBlanched = v_isBlanched_j) {v_many : (Nat → Int32)} {v_many_j : (Nat → Int)} (t_v_many : mA v_many = v_many_j) {v_second : (Nat → Int32)} {v_second_j : (Nat → Int)} (t_v_second : mA v_second = v_second_j) {v_sort : (Nat → Int32)} {v_sort_j : (Nat → Int)} (t_v_sort : mA v_sort = v_sort_j) {v_sumEnd : (Nat → Int32)} {v_sumEnd_j : (Nat → Int)} (t_v_sumEnd : mA v_sumEnd = v_sumEnd_j) {v_sumFrom : (Nat → Int32)} {v_sumFrom_j : (Nat → Int)} (t_v_sumFrom : mA v_sumFrom = v_sumFrom_j) {v_testEnd : (Nat → Int32)} {v_testEnd_j : (Nat → Int)} (t_v_testEnd : mA v_testEnd = v_testEnd_j) {self : Int32 → Int64 → Int64 → Int64 → Int32 → Int64 → Int32 → (Nat → Int64) → (Nat → Int64) → Option R_pM_does} {self_j : Int → Int → Int → Int → Int → Int → Int → (Nat → Int) → (Nat → Int) → Option R_iM_does} (t_self : ∀ (q0_ : Int32) (q1_ : Int64) (q2_ : Int64) (q3_ : Int64) (q4_ : Int32) (q5_ : Int64) (q6_ : Int32) (q7_ : (Nat → Int64)) (q8_ : (Nat → Int64)), tl (mP mJ (mP mJ (mP mJ (mP mI (mP mJ (mP mI (mP mL mL))))))) (self_j (mI q0_) (mJ q1_) (mJ q2_) (mJ q3_) (mI q4_) (mJ q5_) (mI q6_) (mL q7_) (mL q8_)) (self q0_ q1_ q2_ q3_ q4_ q5_ q6_ q7_ q8_)) {x3 : Int32} {x3_j : Int} (t_x3 : mI x3 = x3_j) {x4 : Int32} {x4_j : Int} (t_x4 : mI x4 = x4_j) {x5 : Int64} {x5_j : Int} (t_x5 : mJ x5 = x5_j) {v_allowed : Int64} {v_allowed_j : Int} (t_v_allowed : mJ v_allowed = v_allowed_j) {v_debt : Int64} {v_debt_j : Int} (t_v_debt : mJ v_debt = v_debt_j) {v_farms : Int64} {v_farms_j : Int} (t_v_farms : mJ v_farms = v_farms_j) {v_isBlanchedNow : Int32} {v_isBlanchedNow_j : Int} (t_v_isBlanchedNow : mI v_isBlanchedNow = v_isBlanchedNow_j) {v_pardoned : Int64} {v_pardoned_j : Int} (t_v_pardoned : mJ v_pardoned = v_pardoned_j) {v_piled : Int32} {v_piled_j : Int} (t_v_piled : mI v_piled = v_piled_j) {v_off : (Nat → Int64)} {v_off_j : (Nat → Int)} (t_v_off : mL v_off = v_off_j) {v_pile : (Nat → Int64)} {v_pile_j : (Nat → Int)} (t_v_pile : mL v_pile = v_pile_j) : tl (mP mJ (mP mJ (mP mJ (mP mI (mP mJ (mP mI (mP mL mL))))))) (iM_does_b281 N_j a1_j a2_j v_now_j v_paid_j v_shireNow_j v_codes_j v_first_j v_isBlanched_j v_many_j v_second_j v_sort_j v_sumEnd_j v_sumFrom_j v_testEnd_j self_j x3_j x4_j x5_j v_allowed_j v_debt_j v_farms_j v_isBlanchedNow_j v_pardoned_j v_piled_j v_off_j v_pile_j) (pM_does_b281 N a1 a2 v_now v_paid v_shireNow v_codes v_first v_isBlanched v_many v_second v_sort v_sumEnd v_sumFrom v_testEnd self x3 x4 x5 v_allowed v_debt v_farms v_isBlanchedNow v_pardoned v_piled v_off v_pile) := by
  subst t_N
  subst t_a1
  subst t_a2
  subst t_v_now
  subst t_v_paid
  subst t_v_shireNow
  subst t_v_codes
  subst t_v_first
  subst t_v_isBlanched
  subst t_v_many
  subst t_v_second
  subst t_v_sort
  subst t_v_sumEnd
  subst t_v_sumFrom
  subst t_v_testEnd
  subst t_x3
  subst t_x4
  subst t_x5
  subst t_v_allowed
  subst t_v_debt
  subst t_v_farms
  subst t_v_isBlanchedNow
  subst t_v_pardoned
  subst t_v_piled
  subst t_v_off
  subst t_v_pile
  unfold iM_does_b281 pM_does_b281
  refine tl_gd (jg_ib (Eq.refl (mI x4))) (fun _ => ?_)
  refine tl_g (fun h1 => ?_)
  refine tl_g (fun h2 => ?_)
  refine tl_g (fun h3 => ?_)
  refine tl_g (fun h4 => ?_)
  exact (tl_e9 (ja_add (Eq.refl (mI x3)) jlitI_1 h1) (Eq.refl (mJ v_allowed)) (jL_sub (Eq.refl (mJ v_debt)) (jL_mul (Eq.refl (mJ x5)) (ja_i2l (ja_sub (jrd (Eq.refl (mA v_first)) (jx (Eq.refl (mI x4)))) jlitI_1 h2)) h3) h4) (Eq.refl (mJ v_farms)) (Eq.refl (mI v_isBlanchedNow)) (Eq.refl (mJ v_pardoned)) (Eq.refl (mI v_piled)) (Eq.refl (mL v_off)) (Eq.refl (mL v_pile)) (t_self _ _ _ _ _ _ _ _ _))
theorem t_pM_does_b212 {N N_j : Nat} (t_N : N = N_j) {a1 : Int32} {a1_j : Int} (t_a1 : mI a1 = a1_j) {a2 : Int32} {a2_j : Int} (t_a2 : mI a2 = a2_j) {v_now : Int32} {v_now_j : Int} (t_v_now : mI v_now = v_now_j) {v_paid : Int64} {v_paid_j : Int} (t_v_paid : mJ v_paid = v_paid_j) {v_shireNow : Int32} {v_shireNow_j : Int} (t_v_shireNow : mI v_shireNow = v_shireNow_j) {v_codes : (Nat → Int32)} {v_codes_j : (Nat → Int)} (t_v_codes : mA v_codes = v_codes_j) {v_first : (Nat → Int32)} {v_first_j : (Nat → Int)} (t_v_first : mA v_first = v_first_j) {v_isBlanched : (Nat → Int32)} {v_isBlanched_j : (Nat → Int)} (t_v_isBlanched : mA v_isBlanched = v_isBlanched_j) {v_many : (Nat → Int32)} {v_many_j : (Nat → Int)} (t_v_many : mA v_many = v_many_j) {v_second : (Nat → Int32)} {v_second_j : (Nat → Int)} (t_v_second : mA v_second = v_second_j) {v_sort : (Nat → Int32)} {v_sort_j : (Nat → Int)} (t_v_sort : mA v_sort = v_sort_j) {v_sumEnd : (Nat → Int32)} {v_sumEnd_j : (Nat → Int)} (t_v_sumEnd : mA v_sumEnd = v_sumEnd_j) {v_sumFrom : (Nat → Int32)} {v_sumFrom_j : (Nat → Int)} (t_v_sumFrom : mA v_sumFrom = v_sumFrom_j) {v_testEnd : (Nat → Int32)} {v_testEnd_j : (Nat → Int)} (t_v_testEnd : mA v_testEnd = v_testEnd_j) {self : Int32 → Int64 → Int64 → Int64 → Int32 → Int64 → Int32 → (Nat → Int64) → (Nat → Int64) → Option R_pM_does} {self_j : Int → Int → Int → Int → Int → Int → Int → (Nat → Int) → (Nat → Int) → Option R_iM_does} (t_self : ∀ (q0_ : Int32) (q1_ : Int64) (q2_ : Int64) (q3_ : Int64) (q4_ : Int32) (q5_ : Int64) (q6_ : Int32) (q7_ : (Nat → Int64)) (q8_ : (Nat → Int64)), tl (mP mJ (mP mJ (mP mJ (mP mI (mP mJ (mP mI (mP mL mL))))))) (self_j (mI q0_) (mJ q1_) (mJ q2_) (mJ q3_) (mI q4_) (mJ q5_) (mI q6_) (mL q7_) (mL q8_)) (self q0_ q1_ q2_ q3_ q4_ q5_ q6_ q7_ q8_)) {x3 : Int32} {x3_j : Int} (t_x3 : mI x3 = x3_j) {x4 : Int32} {x4_j : Int} (t_x4 : mI x4 = x4_j) {v_allowed : Int64} {v_allowed_j : Int} (t_v_allowed : mJ v_allowed = v_allowed_j) {v_debt : Int64} {v_debt_j : Int} (t_v_debt : mJ v_debt = v_debt_j) {v_farms : Int64} {v_farms_j : Int} (t_v_farms : mJ v_farms = v_farms_j) {v_isBlanchedNow : Int32} {v_isBlanchedNow_j : Int} (t_v_isBlanchedNow : mI v_isBlanchedNow = v_isBlanchedNow_j) {v_pardoned : Int64} {v_pardoned_j : Int} (t_v_pardoned : mJ v_pardoned = v_pardoned_j) {v_piled : Int32} {v_piled_j : Int} (t_v_piled : mI v_piled = v_piled_j) {v_off : (Nat → Int64)} {v_off_j : (Nat → Int)} (t_v_off : mL v_off = v_off_j) {v_pile : (Nat → Int64)} {v_pile_j : (Nat → Int)} (t_v_pile : mL v_pile = v_pile_j) : tl (mP mJ (mP mJ (mP mJ (mP mI (mP mJ (mP mI (mP mL mL))))))) (iM_does_b212 N_j a1_j a2_j v_now_j v_paid_j v_shireNow_j v_codes_j v_first_j v_isBlanched_j v_many_j v_second_j v_sort_j v_sumEnd_j v_sumFrom_j v_testEnd_j self_j x3_j x4_j v_allowed_j v_debt_j v_farms_j v_isBlanchedNow_j v_pardoned_j v_piled_j v_off_j v_pile_j) (pM_does_b212 N a1 a2 v_now v_paid v_shireNow v_codes v_first v_isBlanched v_many v_second v_sort v_sumEnd v_sumFrom v_testEnd self x3 x4 v_allowed v_debt v_farms v_isBlanchedNow v_pardoned v_piled v_off v_pile) := by
  subst t_N
  subst t_a1
  subst t_a2
  subst t_v_now
  subst t_v_paid
  subst t_v_shireNow
  subst t_v_codes
  subst t_v_first
  subst t_v_isBlanched
  subst t_v_many
  subst t_v_second
  subst t_v_sort
  subst t_v_sumEnd
  subst t_v_sumFrom
  subst t_v_testEnd
  subst t_x3
  subst t_x4
  subst t_v_allowed
  subst t_v_debt
  subst t_v_farms
  subst t_v_isBlanchedNow
  subst t_v_pardoned
  subst t_v_piled
  subst t_v_off
  subst t_v_pile
  unfold iM_does_b212 pM_does_b212
  refine tl_ite (jc_eq (Eq.refl (mI a2)) jlitI_3) ?_ ?_
  · refine tl_ite (jk_le (Eq.refl (mJ v_debt)) jlitJ_0) ?_ ?_
    · refine tl_g (fun h1 => ?_)
      exact (tl_e9 (ja_add (Eq.refl (mI x3)) jlitI_1 h1) (Eq.refl (mJ v_allowed)) (Eq.refl (mJ v_debt)) (Eq.refl (mJ v_farms)) (Eq.refl (mI v_isBlanchedNow)) (Eq.refl (mJ v_pardoned)) (Eq.refl (mI v_piled)) (Eq.refl (mL v_off)) (Eq.refl (mL v_pile)) (t_self _ _ _ _ _ _ _ _ _))
    · refine tl_gd (jg_ib (Eq.refl (mI x4))) (fun _ => ?_)
      refine tl_bd1 (t_pM_floor (Eq.refl (mJ v_debt)) (ja_i2l (jrd (Eq.refl (mA v_first)) (jx (Eq.refl (mI x4)))))) (fun rc8 => ?_)
      exact (t_pM_does_b246 (Eq.refl N) (Eq.refl (mI a1)) (Eq.refl (mI a2)) (Eq.refl (mI v_now)) (Eq.refl (mJ v_paid)) (Eq.refl (mI v_shireNow)) (Eq.refl (mA v_codes)) (Eq.refl (mA v_first)) (Eq.refl (mA v_isBlanched)) (Eq.refl (mA v_many)) (Eq.refl (mA v_second)) (Eq.refl (mA v_sort)) (Eq.refl (mA v_sumEnd)) (Eq.refl (mA v_sumFrom)) (Eq.refl (mA v_testEnd)) (Eq.refl (mI x3)) (Eq.refl (mI x4)) (Eq.refl (mJ rc8)) (Eq.refl (mJ v_allowed)) (Eq.refl (mJ v_debt)) (Eq.refl (mJ v_farms)) (Eq.refl (mI v_isBlanchedNow)) (Eq.refl (mJ v_pardoned)) (Eq.refl (mI v_piled)) (Eq.refl (mL v_pile)) (fun v_off_k1 => by exact (t_pM_does_b281 (Eq.refl N) (Eq.refl (mI a1)) (Eq.refl (mI a2)) (Eq.refl (mI v_now)) (Eq.refl (mJ v_paid)) (Eq.refl (mI v_shireNow)) (Eq.refl (mA v_codes)) (Eq.refl (mA v_first)) (Eq.refl (mA v_isBlanched)) (Eq.refl (mA v_many)) (Eq.refl (mA v_second)) (Eq.refl (mA v_sort)) (Eq.refl (mA v_sumEnd)) (Eq.refl (mA v_sumFrom)) (Eq.refl (mA v_testEnd)) t_self (Eq.refl (mI x3)) (Eq.refl (mI x4)) (Eq.refl (mJ rc8)) (Eq.refl (mJ v_allowed)) (Eq.refl (mJ v_debt)) (Eq.refl (mJ v_farms)) (Eq.refl (mI v_isBlanchedNow)) (Eq.refl (mJ v_pardoned)) (Eq.refl (mI v_piled)) (Eq.refl (mL v_off_k1)) (Eq.refl (mL v_pile)))) (Eq.refl N) jlitI_1 (Eq.refl (mL v_off)))
  · refine tl_g (fun h2 => ?_)
    exact (tl_e9 (ja_add (Eq.refl (mI x3)) jlitI_1 h2) (Eq.refl (mJ v_allowed)) (Eq.refl (mJ v_debt)) (Eq.refl (mJ v_farms)) (Eq.refl (mI v_isBlanchedNow)) (Eq.refl (mJ v_pardoned)) (Eq.refl (mI v_piled)) (Eq.refl (mL v_off)) (Eq.refl (mL v_pile)) (t_self _ _ _ _ _ _ _ _ _))
theorem t_pM_does_b2_F {N N_j : Nat} (t_N : N = N_j) {a1 : Int32} {a1_j : Int} (t_a1 : mI a1 = a1_j) {a2 : Int32} {a2_j : Int} (t_a2 : mI a2 = a2_j) {v_now : Int32} {v_now_j : Int} (t_v_now : mI v_now = v_now_j) {v_paid : Int64} {v_paid_j : Int} (t_v_paid : mJ v_paid = v_paid_j) {v_shireNow : Int32} {v_shireNow_j : Int} (t_v_shireNow : mI v_shireNow = v_shireNow_j) {v_codes : (Nat → Int32)} {v_codes_j : (Nat → Int)} (t_v_codes : mA v_codes = v_codes_j) {v_first : (Nat → Int32)} {v_first_j : (Nat → Int)} (t_v_first : mA v_first = v_first_j) {v_isBlanched : (Nat → Int32)} {v_isBlanched_j : (Nat → Int)} (t_v_isBlanched : mA v_isBlanched = v_isBlanched_j) {v_many : (Nat → Int32)} {v_many_j : (Nat → Int)} (t_v_many : mA v_many = v_many_j) {v_second : (Nat → Int32)} {v_second_j : (Nat → Int)} (t_v_second : mA v_second = v_second_j) {v_sort : (Nat → Int32)} {v_sort_j : (Nat → Int)} (t_v_sort : mA v_sort = v_sort_j) {v_sumEnd : (Nat → Int32)} {v_sumEnd_j : (Nat → Int)} (t_v_sumEnd : mA v_sumEnd = v_sumEnd_j) {v_sumFrom : (Nat → Int32)} {v_sumFrom_j : (Nat → Int)} (t_v_sumFrom : mA v_sumFrom = v_sumFrom_j) {v_testEnd : (Nat → Int32)} {v_testEnd_j : (Nat → Int)} (t_v_testEnd : mA v_testEnd = v_testEnd_j) {self : Int32 → Int64 → Int64 → Int64 → Int32 → Int64 → Int32 → (Nat → Int64) → (Nat → Int64) → Option R_pM_does} {self_j : Int → Int → Int → Int → Int → Int → Int → (Nat → Int) → (Nat → Int) → Option R_iM_does} (t_self : ∀ (q0_ : Int32) (q1_ : Int64) (q2_ : Int64) (q3_ : Int64) (q4_ : Int32) (q5_ : Int64) (q6_ : Int32) (q7_ : (Nat → Int64)) (q8_ : (Nat → Int64)), tl (mP mJ (mP mJ (mP mJ (mP mI (mP mJ (mP mI (mP mL mL))))))) (self_j (mI q0_) (mJ q1_) (mJ q2_) (mJ q3_) (mI q4_) (mJ q5_) (mI q6_) (mL q7_) (mL q8_)) (self q0_ q1_ q2_ q3_ q4_ q5_ q6_ q7_ q8_)) {x3 : Int32} {x3_j : Int} (t_x3 : mI x3 = x3_j) {v_allowed : Int64} {v_allowed_j : Int} (t_v_allowed : mJ v_allowed = v_allowed_j) {v_debt : Int64} {v_debt_j : Int} (t_v_debt : mJ v_debt = v_debt_j) {v_farms : Int64} {v_farms_j : Int} (t_v_farms : mJ v_farms = v_farms_j) {v_isBlanchedNow : Int32} {v_isBlanchedNow_j : Int} (t_v_isBlanchedNow : mI v_isBlanchedNow = v_isBlanchedNow_j) {v_pardoned : Int64} {v_pardoned_j : Int} (t_v_pardoned : mJ v_pardoned = v_pardoned_j) {v_piled : Int32} {v_piled_j : Int} (t_v_piled : mI v_piled = v_piled_j) {v_off : (Nat → Int64)} {v_off_j : (Nat → Int)} (t_v_off : mL v_off = v_off_j) {v_pile : (Nat → Int64)} {v_pile_j : (Nat → Int)} (t_v_pile : mL v_pile = v_pile_j) : tl (mP mJ (mP mJ (mP mJ (mP mI (mP mJ (mP mI (mP mL mL))))))) (iM_does_b2_F N_j a1_j a2_j v_now_j v_paid_j v_shireNow_j v_codes_j v_first_j v_isBlanched_j v_many_j v_second_j v_sort_j v_sumEnd_j v_sumFrom_j v_testEnd_j self_j x3_j v_allowed_j v_debt_j v_farms_j v_isBlanchedNow_j v_pardoned_j v_piled_j v_off_j v_pile_j) (pM_does_b2_F N a1 a2 v_now v_paid v_shireNow v_codes v_first v_isBlanched v_many v_second v_sort v_sumEnd v_sumFrom v_testEnd self x3 v_allowed v_debt v_farms v_isBlanchedNow v_pardoned v_piled v_off v_pile) := by
  subst t_N
  subst t_a1
  subst t_a2
  subst t_v_now
  subst t_v_paid
  subst t_v_shireNow
  subst t_v_codes
  subst t_v_first
  subst t_v_isBlanched
  subst t_v_many
  subst t_v_second
  subst t_v_sort
  subst t_v_sumEnd
  subst t_v_sumFrom
  subst t_v_testEnd
  subst t_x3
  subst t_v_allowed
  subst t_v_debt
  subst t_v_farms
  subst t_v_isBlanchedNow
  subst t_v_pardoned
  subst t_v_piled
  subst t_v_off
  subst t_v_pile
  unfold iM_does_b2_F pM_does_b2_F
  refine tl_gd (jg_ib (Eq.refl (mI a1))) (fun _ => ?_)
  refine tl_ite (jc_le (jrd (Eq.refl (mA v_many)) (jx (Eq.refl (mI a1)))) (Eq.refl (mI x3))) ?_ ?_
  · exact (tl_some (jp2 (Eq.refl (mJ v_allowed)) (jp2 (Eq.refl (mJ v_debt)) (jp2 (Eq.refl (mJ v_farms)) (jp2 (Eq.refl (mI v_isBlanchedNow)) (jp2 (Eq.refl (mJ v_pardoned)) (jp2 (Eq.refl (mI v_piled)) (jp2 (Eq.refl (mL v_off)) (Eq.refl (mL v_pile))))))))))
  · refine tl_g (fun h1 => ?_)
    refine tl_g (fun h2 => ?_)
    refine tl_gd (jg_ib (ja_add (ja_mul jlitI_24 (Eq.refl (mI a1)) h1) (Eq.refl (mI x3)) h2)) (fun _ => ?_)
    refine tl_ite (jc_eq (jrd (Eq.refl (mA v_sort)) (jx (ja_add (ja_mul jlitI_24 (Eq.refl (mI a1)) h1) (Eq.refl (mI x3)) h2))) (Eq.refl (mI a2))) ?_ ?_
    · refine tl_bd3 (t_pM_holds (Eq.refl N) (Eq.refl (mI a1)) (ja_add (ja_mul jlitI_24 (Eq.refl (mI a1)) h1) (Eq.refl (mI x3)) h2) (Eq.refl (mJ v_debt)) (Eq.refl (mI v_now)) (Eq.refl (mJ v_paid)) (Eq.refl (mI v_piled)) (Eq.refl (mI v_shireNow)) (Eq.refl (mA v_codes)) (Eq.refl (mL v_pile)) (Eq.refl (mA v_sumEnd)) (Eq.refl (mA v_testEnd))) (fun rc3 v_piled_c3 v_pile_c3 => ?_)
      refine tl_ite (jc_eq (Eq.refl (mI rc3)) jlitI_0) ?_ ?_
      · refine tl_g (fun h3 => ?_)
        exact (tl_e9 (ja_add (Eq.refl (mI x3)) jlitI_1 h3) (Eq.refl (mJ v_allowed)) (Eq.refl (mJ v_debt)) (Eq.refl (mJ v_farms)) (Eq.refl (mI v_isBlanchedNow)) (Eq.refl (mJ v_pardoned)) (Eq.refl (mI v_piled_c3)) (Eq.refl (mL v_off)) (Eq.refl (mL v_pile_c3)) (t_self _ _ _ _ _ _ _ _ _))
      · refine tl_ite (jc_eq (Eq.refl (mI a2)) jlitI_0) ?_ ?_
        · refine tl_bd3 (t_pM_amount (Eq.refl N) (Eq.refl (mI a1)) (ja_add (ja_mul jlitI_24 (Eq.refl (mI a1)) h1) (Eq.refl (mI x3)) h2) (Eq.refl (mJ v_debt)) (Eq.refl (mI v_now)) (Eq.refl (mJ v_paid)) (Eq.refl (mI v_piled_c3)) (Eq.refl (mI v_shireNow)) (Eq.refl (mA v_codes)) (Eq.refl (mL v_pile_c3)) (Eq.refl (mA v_sumEnd)) (Eq.refl (mA v_sumFrom))) (fun rc6 v_piled_c6 v_pile_c6 => ?_)
          refine tl_ite (jc_eq (Eq.refl (mI v_isBlanchedNow)) jlitI_0) ?_ ?_
          · refine tl_ite (jc_eq (jrd (Eq.refl (mA v_isBlanched)) (jx (ja_add (ja_mul jlitI_24 (Eq.refl (mI a1)) h1) (Eq.refl (mI x3)) h2))) jlitI_0) ?_ ?_
            · refine tl_g (fun h4 => ?_)
              refine tl_g (fun h5 => ?_)
              exact (t_pM_does_b102 (Eq.refl N) (Eq.refl (mI a1)) (Eq.refl (mI a2)) (Eq.refl (mI v_now)) (Eq.refl (mJ v_paid)) (Eq.refl (mI v_shireNow)) (Eq.refl (mA v_codes)) (Eq.refl (mA v_first)) (Eq.refl (mA v_isBlanched)) (Eq.refl (mA v_many)) (Eq.refl (mA v_second)) (Eq.refl (mA v_sort)) (Eq.refl (mA v_sumEnd)) (Eq.refl (mA v_sumFrom)) (Eq.refl (mA v_testEnd)) t_self (Eq.refl (mI x3)) jlitI_0 (Eq.refl (mJ v_allowed)) (jL_add (Eq.refl (mJ v_debt)) (Eq.refl (mJ rc6)) h4) (jL_add (Eq.refl (mJ v_farms)) (Eq.refl (mJ rc6)) h5) (Eq.refl (mI v_isBlanchedNow)) (Eq.refl (mJ v_pardoned)) (Eq.refl (mI v_piled_c6)) (Eq.refl (mL v_off)) (Eq.refl (mL v_pile_c6)))
            · refine tl_g (fun h6 => ?_)
              refine tl_g (fun h7 => ?_)
              exact (t_pM_does_b102 (Eq.refl N) (Eq.refl (mI a1)) (Eq.refl (mI a2)) (Eq.refl (mI v_now)) (Eq.refl (mJ v_paid)) (Eq.refl (mI v_shireNow)) (Eq.refl (mA v_codes)) (Eq.refl (mA v_first)) (Eq.refl (mA v_isBlanched)) (Eq.refl (mA v_many)) (Eq.refl (mA v_second)) (Eq.refl (mA v_sort)) (Eq.refl (mA v_sumEnd)) (Eq.refl (mA v_sumFrom)) (Eq.refl (mA v_testEnd)) t_self (Eq.refl (mI x3)) jlitI_1 (Eq.refl (mJ v_allowed)) (jL_add (Eq.refl (mJ v_debt)) (Eq.refl (mJ rc6)) h6) (jL_add (Eq.refl (mJ v_farms)) (Eq.refl (mJ rc6)) h7) (Eq.refl (mI v_isBlanchedNow)) (Eq.refl (mJ v_pardoned)) (Eq.refl (mI v_piled_c6)) (Eq.refl (mL v_off)) (Eq.refl (mL v_pile_c6)))
          · refine tl_g (fun h8 => ?_)
            refine tl_g (fun h9 => ?_)
            exact (t_pM_does_b102 (Eq.refl N) (Eq.refl (mI a1)) (Eq.refl (mI a2)) (Eq.refl (mI v_now)) (Eq.refl (mJ v_paid)) (Eq.refl (mI v_shireNow)) (Eq.refl (mA v_codes)) (Eq.refl (mA v_first)) (Eq.refl (mA v_isBlanched)) (Eq.refl (mA v_many)) (Eq.refl (mA v_second)) (Eq.refl (mA v_sort)) (Eq.refl (mA v_sumEnd)) (Eq.refl (mA v_sumFrom)) (Eq.refl (mA v_testEnd)) t_self (Eq.refl (mI x3)) jlitI_1 (Eq.refl (mJ v_allowed)) (jL_add (Eq.refl (mJ v_debt)) (Eq.refl (mJ rc6)) h8) (jL_add (Eq.refl (mJ v_farms)) (Eq.refl (mJ rc6)) h9) (Eq.refl (mI v_isBlanchedNow)) (Eq.refl (mJ v_pardoned)) (Eq.refl (mI v_piled_c6)) (Eq.refl (mL v_off)) (Eq.refl (mL v_pile_c6)))
        · refine tl_ite (jc_eq (Eq.refl (mI a2)) jlitI_1) ?_ ?_
          · refine tl_bd3 (t_pM_amount (Eq.refl N) (Eq.refl (mI a1)) (ja_add (ja_mul jlitI_24 (Eq.refl (mI a1)) h1) (Eq.refl (mI x3)) h2) (Eq.refl (mJ v_debt)) (Eq.refl (mI v_now)) (Eq.refl (mJ v_paid)) (Eq.refl (mI v_piled_c3)) (Eq.refl (mI v_shireNow)) (Eq.refl (mA v_codes)) (Eq.refl (mL v_pile_c3)) (Eq.refl (mA v_sumEnd)) (Eq.refl (mA v_sumFrom))) (fun rc5 v_piled_c5 v_pile_c5 => ?_)
            refine tl_g (fun h10 => ?_)
            refine tl_g (fun h11 => ?_)
            refine tl_g (fun h12 => ?_)
            exact (tl_e9 (ja_add (Eq.refl (mI x3)) jlitI_1 h10) (jL_add (Eq.refl (mJ v_allowed)) (Eq.refl (mJ rc5)) h11) (jL_sub (Eq.refl (mJ v_debt)) (Eq.refl (mJ rc5)) h12) (Eq.refl (mJ v_farms)) (Eq.refl (mI v_isBlanchedNow)) (Eq.refl (mJ v_pardoned)) (Eq.refl (mI v_piled_c5)) (Eq.refl (mL v_off)) (Eq.refl (mL v_pile_c5)) (t_self _ _ _ _ _ _ _ _ _))
          · refine tl_ite (jc_eq (Eq.refl (mI a2)) jlitI_2) ?_ ?_
            · refine tl_ite (jk_le (Eq.refl (mJ v_debt)) jlitJ_0) ?_ ?_
              · exact (t_pM_does_b212 (Eq.refl N) (Eq.refl (mI a1)) (Eq.refl (mI a2)) (Eq.refl (mI v_now)) (Eq.refl (mJ v_paid)) (Eq.refl (mI v_shireNow)) (Eq.refl (mA v_codes)) (Eq.refl (mA v_first)) (Eq.refl (mA v_isBlanched)) (Eq.refl (mA v_many)) (Eq.refl (mA v_second)) (Eq.refl (mA v_sort)) (Eq.refl (mA v_sumEnd)) (Eq.refl (mA v_sumFrom)) (Eq.refl (mA v_testEnd)) t_self (Eq.refl (mI x3)) (ja_add (ja_mul jlitI_24 (Eq.refl (mI a1)) h1) (Eq.refl (mI x3)) h2) (Eq.refl (mJ v_allowed)) (Eq.refl (mJ v_debt)) (Eq.refl (mJ v_farms)) (Eq.refl (mI v_isBlanchedNow)) (Eq.refl (mJ v_pardoned)) (Eq.refl (mI v_piled_c3)) (Eq.refl (mL v_off)) (Eq.refl (mL v_pile_c3)))
              · refine tl_g (fun h13 => ?_)
                refine tl_bd1 (t_pM_floor (jL_mul (Eq.refl (mJ v_debt)) (ja_i2l (jrd (Eq.refl (mA v_first)) (jx (ja_add (ja_mul jlitI_24 (Eq.refl (mI a1)) h1) (Eq.refl (mI x3)) h2)))) h13) (ja_i2l (jrd (Eq.refl (mA v_second)) (jx (ja_add (ja_mul jlitI_24 (Eq.refl (mI a1)) h1) (Eq.refl (mI x3)) h2))))) (fun rc4 => ?_)
                refine tl_g (fun h14 => ?_)
                refine tl_g (fun h15 => ?_)
                refine tl_g (fun h16 => ?_)
                exact (tl_e9 (ja_add (Eq.refl (mI x3)) jlitI_1 h14) (Eq.refl (mJ v_allowed)) (jL_sub (Eq.refl (mJ v_debt)) (Eq.refl (mJ rc4)) h15) (Eq.refl (mJ v_farms)) (Eq.refl (mI v_isBlanchedNow)) (jL_add (Eq.refl (mJ v_pardoned)) (Eq.refl (mJ rc4)) h16) (Eq.refl (mI v_piled_c3)) (Eq.refl (mL v_off)) (Eq.refl (mL v_pile_c3)) (t_self _ _ _ _ _ _ _ _ _))
            · exact (t_pM_does_b212 (Eq.refl N) (Eq.refl (mI a1)) (Eq.refl (mI a2)) (Eq.refl (mI v_now)) (Eq.refl (mJ v_paid)) (Eq.refl (mI v_shireNow)) (Eq.refl (mA v_codes)) (Eq.refl (mA v_first)) (Eq.refl (mA v_isBlanched)) (Eq.refl (mA v_many)) (Eq.refl (mA v_second)) (Eq.refl (mA v_sort)) (Eq.refl (mA v_sumEnd)) (Eq.refl (mA v_sumFrom)) (Eq.refl (mA v_testEnd)) t_self (Eq.refl (mI x3)) (ja_add (ja_mul jlitI_24 (Eq.refl (mI a1)) h1) (Eq.refl (mI x3)) h2) (Eq.refl (mJ v_allowed)) (Eq.refl (mJ v_debt)) (Eq.refl (mJ v_farms)) (Eq.refl (mI v_isBlanchedNow)) (Eq.refl (mJ v_pardoned)) (Eq.refl (mI v_piled_c3)) (Eq.refl (mL v_off)) (Eq.refl (mL v_pile_c3)))
    · refine tl_g (fun h17 => ?_)
      exact (tl_e9 (ja_add (Eq.refl (mI x3)) jlitI_1 h17) (Eq.refl (mJ v_allowed)) (Eq.refl (mJ v_debt)) (Eq.refl (mJ v_farms)) (Eq.refl (mI v_isBlanchedNow)) (Eq.refl (mJ v_pardoned)) (Eq.refl (mI v_piled)) (Eq.refl (mL v_off)) (Eq.refl (mL v_pile)) (t_self _ _ _ _ _ _ _ _ _))
theorem t_pM_does_b2 {N N_j : Nat} (t_N : N = N_j) {a1 : Int32} {a1_j : Int} (t_a1 : mI a1 = a1_j) {a2 : Int32} {a2_j : Int} (t_a2 : mI a2 = a2_j) {v_now : Int32} {v_now_j : Int} (t_v_now : mI v_now = v_now_j) {v_paid : Int64} {v_paid_j : Int} (t_v_paid : mJ v_paid = v_paid_j) {v_shireNow : Int32} {v_shireNow_j : Int} (t_v_shireNow : mI v_shireNow = v_shireNow_j) {v_codes : (Nat → Int32)} {v_codes_j : (Nat → Int)} (t_v_codes : mA v_codes = v_codes_j) {v_first : (Nat → Int32)} {v_first_j : (Nat → Int)} (t_v_first : mA v_first = v_first_j) {v_isBlanched : (Nat → Int32)} {v_isBlanched_j : (Nat → Int)} (t_v_isBlanched : mA v_isBlanched = v_isBlanched_j) {v_many : (Nat → Int32)} {v_many_j : (Nat → Int)} (t_v_many : mA v_many = v_many_j) {v_second : (Nat → Int32)} {v_second_j : (Nat → Int)} (t_v_second : mA v_second = v_second_j) {v_sort : (Nat → Int32)} {v_sort_j : (Nat → Int)} (t_v_sort : mA v_sort = v_sort_j) {v_sumEnd : (Nat → Int32)} {v_sumEnd_j : (Nat → Int)} (t_v_sumEnd : mA v_sumEnd = v_sumEnd_j) {v_sumFrom : (Nat → Int32)} {v_sumFrom_j : (Nat → Int)} (t_v_sumFrom : mA v_sumFrom = v_sumFrom_j) {v_testEnd : (Nat → Int32)} {v_testEnd_j : (Nat → Int)} (t_v_testEnd : mA v_testEnd = v_testEnd_j) {n n_j : Nat} (t_n : n = n_j) {w0_ : Int32} {w0__j : Int} (t_w0_ : mI w0_ = w0__j) {w1_ : Int64} {w1__j : Int} (t_w1_ : mJ w1_ = w1__j) {w2_ : Int64} {w2__j : Int} (t_w2_ : mJ w2_ = w2__j) {w3_ : Int64} {w3__j : Int} (t_w3_ : mJ w3_ = w3__j) {w4_ : Int32} {w4__j : Int} (t_w4_ : mI w4_ = w4__j) {w5_ : Int64} {w5__j : Int} (t_w5_ : mJ w5_ = w5__j) {w6_ : Int32} {w6__j : Int} (t_w6_ : mI w6_ = w6__j) {w7_ : (Nat → Int64)} {w7__j : (Nat → Int)} (t_w7_ : mL w7_ = w7__j) {w8_ : (Nat → Int64)} {w8__j : (Nat → Int)} (t_w8_ : mL w8_ = w8__j) : tl (mP mJ (mP mJ (mP mJ (mP mI (mP mJ (mP mI (mP mL mL))))))) (iM_does_b2 N_j a1_j a2_j v_now_j v_paid_j v_shireNow_j v_codes_j v_first_j v_isBlanched_j v_many_j v_second_j v_sort_j v_sumEnd_j v_sumFrom_j v_testEnd_j n_j w0__j w1__j w2__j w3__j w4__j w5__j w6__j w7__j w8__j) (pM_does_b2 N a1 a2 v_now v_paid v_shireNow v_codes v_first v_isBlanched v_many v_second v_sort v_sumEnd v_sumFrom v_testEnd n w0_ w1_ w2_ w3_ w4_ w5_ w6_ w7_ w8_) := by
  subst t_N
  subst t_a1
  subst t_a2
  subst t_v_now
  subst t_v_paid
  subst t_v_shireNow
  subst t_v_codes
  subst t_v_first
  subst t_v_isBlanched
  subst t_v_many
  subst t_v_second
  subst t_v_sort
  subst t_v_sumEnd
  subst t_v_sumFrom
  subst t_v_testEnd
  subst t_n
  subst t_w0_
  subst t_w1_
  subst t_w2_
  subst t_w3_
  subst t_w4_
  subst t_w5_
  subst t_w6_
  subst t_w7_
  subst t_w8_
  exact tl_zlp9 (fun s2 s hs w0_ w1_ w2_ w3_ w4_ w5_ w6_ w7_ w8_ => t_pM_does_b2_F (Eq.refl N) (Eq.refl (mI a1)) (Eq.refl (mI a2)) (Eq.refl (mI v_now)) (Eq.refl (mJ v_paid)) (Eq.refl (mI v_shireNow)) (Eq.refl (mA v_codes)) (Eq.refl (mA v_first)) (Eq.refl (mA v_isBlanched)) (Eq.refl (mA v_many)) (Eq.refl (mA v_second)) (Eq.refl (mA v_sort)) (Eq.refl (mA v_sumEnd)) (Eq.refl (mA v_sumFrom)) (Eq.refl (mA v_testEnd)) hs (Eq.refl (mI w0_)) (Eq.refl (mJ w1_)) (Eq.refl (mJ w2_)) (Eq.refl (mJ w3_)) (Eq.refl (mI w4_)) (Eq.refl (mJ w5_)) (Eq.refl (mI w6_)) (Eq.refl (mL w7_)) (Eq.refl (mL w8_))) n w0_ w1_ w2_ w3_ w4_ w5_ w6_ w7_ w8_
theorem t_pM_does {N N_j : Nat} (t_N : N = N_j) {a1 : Int32} {a1_j : Int} (t_a1 : mI a1 = a1_j) {a2 : Int32} {a2_j : Int} (t_a2 : mI a2 = a2_j) {v_allowed : Int64} {v_allowed_j : Int} (t_v_allowed : mJ v_allowed = v_allowed_j) {v_debt : Int64} {v_debt_j : Int} (t_v_debt : mJ v_debt = v_debt_j) {v_farms : Int64} {v_farms_j : Int} (t_v_farms : mJ v_farms = v_farms_j) {v_isBlanchedNow : Int32} {v_isBlanchedNow_j : Int} (t_v_isBlanchedNow : mI v_isBlanchedNow = v_isBlanchedNow_j) {v_now : Int32} {v_now_j : Int} (t_v_now : mI v_now = v_now_j) {v_paid : Int64} {v_paid_j : Int} (t_v_paid : mJ v_paid = v_paid_j) {v_pardoned : Int64} {v_pardoned_j : Int} (t_v_pardoned : mJ v_pardoned = v_pardoned_j) {v_piled : Int32} {v_piled_j : Int} (t_v_piled : mI v_piled = v_piled_j) {v_shireNow : Int32} {v_shireNow_j : Int} (t_v_shireNow : mI v_shireNow = v_shireNow_j) {v_codes : (Nat → Int32)} {v_codes_j : (Nat → Int)} (t_v_codes : mA v_codes = v_codes_j) {v_first : (Nat → Int32)} {v_first_j : (Nat → Int)} (t_v_first : mA v_first = v_first_j) {v_isBlanched : (Nat → Int32)} {v_isBlanched_j : (Nat → Int)} (t_v_isBlanched : mA v_isBlanched = v_isBlanched_j) {v_many : (Nat → Int32)} {v_many_j : (Nat → Int)} (t_v_many : mA v_many = v_many_j) {v_off : (Nat → Int64)} {v_off_j : (Nat → Int)} (t_v_off : mL v_off = v_off_j) {v_pile : (Nat → Int64)} {v_pile_j : (Nat → Int)} (t_v_pile : mL v_pile = v_pile_j) {v_second : (Nat → Int32)} {v_second_j : (Nat → Int)} (t_v_second : mA v_second = v_second_j) {v_sort : (Nat → Int32)} {v_sort_j : (Nat → Int)} (t_v_sort : mA v_sort = v_sort_j) {v_sumEnd : (Nat → Int32)} {v_sumEnd_j : (Nat → Int)} (t_v_sumEnd : mA v_sumEnd = v_sumEnd_j) {v_sumFrom : (Nat → Int32)} {v_sumFrom_j : (Nat → Int)} (t_v_sumFrom : mA v_sumFrom = v_sumFrom_j) {v_testEnd : (Nat → Int32)} {v_testEnd_j : (Nat → Int)} (t_v_testEnd : mA v_testEnd = v_testEnd_j) : tl (mP mJ (mP mJ (mP mJ (mP mI (mP mJ (mP mI (mP mL mL))))))) (iM_does N_j a1_j a2_j v_allowed_j v_debt_j v_farms_j v_isBlanchedNow_j v_now_j v_paid_j v_pardoned_j v_piled_j v_shireNow_j v_codes_j v_first_j v_isBlanched_j v_many_j v_off_j v_pile_j v_second_j v_sort_j v_sumEnd_j v_sumFrom_j v_testEnd_j) (pM_does N a1 a2 v_allowed v_debt v_farms v_isBlanchedNow v_now v_paid v_pardoned v_piled v_shireNow v_codes v_first v_isBlanched v_many v_off v_pile v_second v_sort v_sumEnd v_sumFrom v_testEnd) := by
  subst t_N
  subst t_a1
  subst t_a2
  subst t_v_allowed
  subst t_v_debt
  subst t_v_farms
  subst t_v_isBlanchedNow
  subst t_v_now
  subst t_v_paid
  subst t_v_pardoned
  subst t_v_piled
  subst t_v_shireNow
  subst t_v_codes
  subst t_v_first
  subst t_v_isBlanched
  subst t_v_many
  subst t_v_off
  subst t_v_pile
  subst t_v_second
  subst t_v_sort
  subst t_v_sumEnd
  subst t_v_sumFrom
  subst t_v_testEnd
  unfold iM_does pM_does
  exact (t_pM_does_b2 (Eq.refl N) (Eq.refl (mI a1)) (Eq.refl (mI a2)) (Eq.refl (mI v_now)) (Eq.refl (mJ v_paid)) (Eq.refl (mI v_shireNow)) (Eq.refl (mA v_codes)) (Eq.refl (mA v_first)) (Eq.refl (mA v_isBlanched)) (Eq.refl (mA v_many)) (Eq.refl (mA v_second)) (Eq.refl (mA v_sort)) (Eq.refl (mA v_sumEnd)) (Eq.refl (mA v_sumFrom)) (Eq.refl (mA v_testEnd)) (Eq.refl N) jlitI_0 (Eq.refl (mJ v_allowed)) (Eq.refl (mJ v_debt)) (Eq.refl (mJ v_farms)) (Eq.refl (mI v_isBlanchedNow)) (Eq.refl (mJ v_pardoned)) (Eq.refl (mI v_piled)) (Eq.refl (mL v_off)) (Eq.refl (mL v_pile)))
theorem t_pM_takesPayments_b153 {N N_j : Nat} (t_N : N = N_j) {v_acts : Int32} {v_acts_j : Int} (t_v_acts : mI v_acts = v_acts_j) {v_isBlanchedNow : Int32} {v_isBlanchedNow_j : Int} (t_v_isBlanchedNow : mI v_isBlanchedNow = v_isBlanchedNow_j) {v_knownAt : Int32} {v_knownAt_j : Int} (t_v_knownAt : mI v_knownAt = v_knownAt_j) {v_movedAct : Int32} {v_movedAct_j : Int} (t_v_movedAct : mI v_movedAct = v_movedAct_j) {v_movedTerm : Int32} {v_movedTerm_j : Int} (t_v_movedTerm : mI v_movedTerm = v_movedTerm_j) {v_now : Int32} {v_now_j : Int} (t_v_now : mI v_now = v_now_j) {v_shireNow : Int32} {v_shireNow_j : Int} (t_v_shireNow : mI v_shireNow = v_shireNow_j) {v_without : Int32} {v_without_j : Int} (t_v_without : mI v_without = v_without_j) {v_actKind : (Nat → Int32)} {v_actKind_j : (Nat → Int)} (t_v_actKind : mA v_actKind = v_actKind_j) {v_actNumber : (Nat → Int32)} {v_actNumber_j : (Nat → Int)} (t_v_actNumber : mA v_actNumber = v_actNumber_j) {v_actShire : (Nat → Int32)} {v_actShire_j : (Nat → Int)} (t_v_actShire : mA v_actShire = v_actShire_j) {v_actTerm : (Nat → Int32)} {v_actTerm_j : (Nat → Int)} (t_v_actTerm : mA v_actTerm = v_actTerm_j) {v_cutWorth : (Nat → Int32)} {v_cutWorth_j : (Nat → Int)} (t_v_cutWorth : mA v_cutWorth = v_cutWorth_j) {v_cuts : (Nat → Int32)} {v_cuts_j : (Nat → Int)} (t_v_cuts : mA v_cuts = v_cuts_j) {v_mates : (Nat → Int32)} {v_mates_j : (Nat → Int)} (t_v_mates : mA v_mates = v_mates_j) {v_pence : (Nat → Int32)} {v_pence_j : (Nat → Int)} (t_v_pence : mA v_pence = v_pence_j) {v_voidAt : (Nat → Int32)} {v_voidAt_j : (Nat → Int)} (t_v_voidAt : mA v_voidAt = v_voidAt_j) {self : Int32 → Int64 → Int64 → Option R_pM_takesPayments} {self_j : Int → Int → Int → Option R_iM_takesPayments} (t_self : ∀ (q0_ : Int32) (q1_ : Int64) (q2_ : Int64), tl (mP mJ mJ) (self_j (mI q0_) (mJ q1_) (mJ q2_)) (self q0_ q1_ q2_)) {x1 : Int32} {x1_j : Int} (t_x1 : mI x1 = x1_j) {x2 : Int64} {x2_j : Int} (t_x2 : mJ x2 = x2_j) {v_debt : Int64} {v_debt_j : Int} (t_v_debt : mJ v_debt = v_debt_j) {v_paid : Int64} {v_paid_j : Int} (t_v_paid : mJ v_paid = v_paid_j) : tl (mP mJ mJ) (iM_takesPayments_b153 N_j v_acts_j v_isBlanchedNow_j v_knownAt_j v_movedAct_j v_movedTerm_j v_now_j v_shireNow_j v_without_j v_actKind_j v_actNumber_j v_actShire_j v_actTerm_j v_cutWorth_j v_cuts_j v_mates_j v_pence_j v_voidAt_j self_j x1_j x2_j v_debt_j v_paid_j) (pM_takesPayments_b153 N v_acts v_isBlanchedNow v_knownAt v_movedAct v_movedTerm v_now v_shireNow v_without v_actKind v_actNumber v_actShire v_actTerm v_cutWorth v_cuts v_mates v_pence v_voidAt self x1 x2 v_debt v_paid) := by
  subst t_N
  subst t_v_acts
  subst t_v_isBlanchedNow
  subst t_v_knownAt
  subst t_v_movedAct
  subst t_v_movedTerm
  subst t_v_now
  subst t_v_shireNow
  subst t_v_without
  subst t_v_actKind
  subst t_v_actNumber
  subst t_v_actShire
  subst t_v_actTerm
  subst t_v_cutWorth
  subst t_v_cuts
  subst t_v_mates
  subst t_v_pence
  subst t_v_voidAt
  subst t_x1
  subst t_x2
  subst t_v_debt
  subst t_v_paid
  unfold iM_takesPayments_b153 pM_takesPayments_b153
  refine tl_g (fun h1 => ?_)
  refine tl_g (fun h2 => ?_)
  refine tl_g (fun h3 => ?_)
  exact (tl_e3 (ja_add (Eq.refl (mI x1)) jlitI_1 h1) (jL_sub (Eq.refl (mJ v_debt)) (Eq.refl (mJ x2)) h2) (jL_add (Eq.refl (mJ v_paid)) (Eq.refl (mJ x2)) h3) (t_self _ _ _))
theorem t_pM_takesPayments_b121 {N N_j : Nat} (t_N : N = N_j) {v_acts : Int32} {v_acts_j : Int} (t_v_acts : mI v_acts = v_acts_j) {v_isBlanchedNow : Int32} {v_isBlanchedNow_j : Int} (t_v_isBlanchedNow : mI v_isBlanchedNow = v_isBlanchedNow_j) {v_knownAt : Int32} {v_knownAt_j : Int} (t_v_knownAt : mI v_knownAt = v_knownAt_j) {v_movedAct : Int32} {v_movedAct_j : Int} (t_v_movedAct : mI v_movedAct = v_movedAct_j) {v_movedTerm : Int32} {v_movedTerm_j : Int} (t_v_movedTerm : mI v_movedTerm = v_movedTerm_j) {v_now : Int32} {v_now_j : Int} (t_v_now : mI v_now = v_now_j) {v_shireNow : Int32} {v_shireNow_j : Int} (t_v_shireNow : mI v_shireNow = v_shireNow_j) {v_without : Int32} {v_without_j : Int} (t_v_without : mI v_without = v_without_j) {v_actKind : (Nat → Int32)} {v_actKind_j : (Nat → Int)} (t_v_actKind : mA v_actKind = v_actKind_j) {v_actNumber : (Nat → Int32)} {v_actNumber_j : (Nat → Int)} (t_v_actNumber : mA v_actNumber = v_actNumber_j) {v_actShire : (Nat → Int32)} {v_actShire_j : (Nat → Int)} (t_v_actShire : mA v_actShire = v_actShire_j) {v_actTerm : (Nat → Int32)} {v_actTerm_j : (Nat → Int)} (t_v_actTerm : mA v_actTerm = v_actTerm_j) {v_cutWorth : (Nat → Int32)} {v_cutWorth_j : (Nat → Int)} (t_v_cutWorth : mA v_cutWorth = v_cutWorth_j) {v_cuts : (Nat → Int32)} {v_cuts_j : (Nat → Int)} (t_v_cuts : mA v_cuts = v_cuts_j) {v_mates : (Nat → Int32)} {v_mates_j : (Nat → Int)} (t_v_mates : mA v_mates = v_mates_j) {v_pence : (Nat → Int32)} {v_pence_j : (Nat → Int)} (t_v_pence : mA v_pence = v_pence_j) {v_voidAt : (Nat → Int32)} {v_voidAt_j : (Nat → Int)} (t_v_voidAt : mA v_voidAt = v_voidAt_j) {self : Int32 → Int64 → Int64 → Option R_pM_takesPayments} {self_j : Int → Int → Int → Option R_iM_takesPayments} (t_self : ∀ (q0_ : Int32) (q1_ : Int64) (q2_ : Int64), tl (mP mJ mJ) (self_j (mI q0_) (mJ q1_) (mJ q2_)) (self q0_ q1_ q2_)) {x1 : Int32} {x1_j : Int} (t_x1 : mI x1 = x1_j) {s0 : Int64} {s0_j : Int} (t_s0 : mJ s0 = s0_j) {s1 : Int64} {s1_j : Int} (t_s1 : mJ s1 = s1_j) {v_debt : Int64} {v_debt_j : Int} (t_v_debt : mJ v_debt = v_debt_j) {v_paid : Int64} {v_paid_j : Int} (t_v_paid : mJ v_paid = v_paid_j) : tl (mP mJ mJ) (iM_takesPayments_b121 N_j v_acts_j v_isBlanchedNow_j v_knownAt_j v_movedAct_j v_movedTerm_j v_now_j v_shireNow_j v_without_j v_actKind_j v_actNumber_j v_actShire_j v_actTerm_j v_cutWorth_j v_cuts_j v_mates_j v_pence_j v_voidAt_j self_j x1_j s0_j s1_j v_debt_j v_paid_j) (pM_takesPayments_b121 N v_acts v_isBlanchedNow v_knownAt v_movedAct v_movedTerm v_now v_shireNow v_without v_actKind v_actNumber v_actShire v_actTerm v_cutWorth v_cuts v_mates v_pence v_voidAt self x1 s0 s1 v_debt v_paid) := by
  subst t_N
  subst t_v_acts
  subst t_v_isBlanchedNow
  subst t_v_knownAt
  subst t_v_movedAct
  subst t_v_movedTerm
  subst t_v_now
  subst t_v_shireNow
  subst t_v_without
  subst t_v_actKind
  subst t_v_actNumber
  subst t_v_actShire
  subst t_v_actTerm
  subst t_v_cutWorth
  subst t_v_cuts
  subst t_v_mates
  subst t_v_pence
  subst t_v_voidAt
  subst t_x1
  subst t_s0
  subst t_s1
  subst t_v_debt
  subst t_v_paid
  unfold iM_takesPayments_b121 pM_takesPayments_b121
  refine tl_g (fun h1 => ?_)
  exact (t_pM_takesPayments_b153 (Eq.refl N) (Eq.refl (mI v_acts)) (Eq.refl (mI v_isBlanchedNow)) (Eq.refl (mI v_knownAt)) (Eq.refl (mI v_movedAct)) (Eq.refl (mI v_movedTerm)) (Eq.refl (mI v_now)) (Eq.refl (mI v_shireNow)) (Eq.refl (mI v_without)) (Eq.refl (mA v_actKind)) (Eq.refl (mA v_actNumber)) (Eq.refl (mA v_actShire)) (Eq.refl (mA v_actTerm)) (Eq.refl (mA v_cutWorth)) (Eq.refl (mA v_cuts)) (Eq.refl (mA v_mates)) (Eq.refl (mA v_pence)) (Eq.refl (mA v_voidAt)) t_self (Eq.refl (mI x1)) (jL_sub (Eq.refl (mJ s0)) (Eq.refl (mJ s1)) h1) (Eq.refl (mJ v_debt)) (Eq.refl (mJ v_paid)))
theorem t_pM_takesPayments_b60 {N N_j : Nat} (t_N : N = N_j) {v_acts : Int32} {v_acts_j : Int} (t_v_acts : mI v_acts = v_acts_j) {v_isBlanchedNow : Int32} {v_isBlanchedNow_j : Int} (t_v_isBlanchedNow : mI v_isBlanchedNow = v_isBlanchedNow_j) {v_knownAt : Int32} {v_knownAt_j : Int} (t_v_knownAt : mI v_knownAt = v_knownAt_j) {v_movedAct : Int32} {v_movedAct_j : Int} (t_v_movedAct : mI v_movedAct = v_movedAct_j) {v_movedTerm : Int32} {v_movedTerm_j : Int} (t_v_movedTerm : mI v_movedTerm = v_movedTerm_j) {v_now : Int32} {v_now_j : Int} (t_v_now : mI v_now = v_now_j) {v_shireNow : Int32} {v_shireNow_j : Int} (t_v_shireNow : mI v_shireNow = v_shireNow_j) {v_without : Int32} {v_without_j : Int} (t_v_without : mI v_without = v_without_j) {v_actKind : (Nat → Int32)} {v_actKind_j : (Nat → Int)} (t_v_actKind : mA v_actKind = v_actKind_j) {v_actNumber : (Nat → Int32)} {v_actNumber_j : (Nat → Int)} (t_v_actNumber : mA v_actNumber = v_actNumber_j) {v_actShire : (Nat → Int32)} {v_actShire_j : (Nat → Int)} (t_v_actShire : mA v_actShire = v_actShire_j) {v_actTerm : (Nat → Int32)} {v_actTerm_j : (Nat → Int)} (t_v_actTerm : mA v_actTerm = v_actTerm_j) {v_cutWorth : (Nat → Int32)} {v_cutWorth_j : (Nat → Int)} (t_v_cutWorth : mA v_cutWorth = v_cutWorth_j) {v_cuts : (Nat → Int32)} {v_cuts_j : (Nat → Int)} (t_v_cuts : mA v_cuts = v_cuts_j) {v_mates : (Nat → Int32)} {v_mates_j : (Nat → Int)} (t_v_mates : mA v_mates = v_mates_j) {v_pence : (Nat → Int32)} {v_pence_j : (Nat → Int)} (t_v_pence : mA v_pence = v_pence_j) {v_voidAt : (Nat → Int32)} {v_voidAt_j : (Nat → Int)} (t_v_voidAt : mA v_voidAt = v_voidAt_j) {self : Int32 → Int64 → Int64 → Option R_pM_takesPayments} {self_j : Int → Int → Int → Option R_iM_takesPayments} (t_self : ∀ (q0_ : Int32) (q1_ : Int64) (q2_ : Int64), tl (mP mJ mJ) (self_j (mI q0_) (mJ q1_) (mJ q2_)) (self q0_ q1_ q2_)) {x1 : Int32} {x1_j : Int} (t_x1 : mI x1 = x1_j) {s0 : Int32} {s0_j : Int} (t_s0 : mI s0 = s0_j) {v_debt : Int64} {v_debt_j : Int} (t_v_debt : mJ v_debt = v_debt_j) {v_paid : Int64} {v_paid_j : Int} (t_v_paid : mJ v_paid = v_paid_j) : tl (mP mJ mJ) (iM_takesPayments_b60 N_j v_acts_j v_isBlanchedNow_j v_knownAt_j v_movedAct_j v_movedTerm_j v_now_j v_shireNow_j v_without_j v_actKind_j v_actNumber_j v_actShire_j v_actTerm_j v_cutWorth_j v_cuts_j v_mates_j v_pence_j v_voidAt_j self_j x1_j s0_j v_debt_j v_paid_j) (pM_takesPayments_b60 N v_acts v_isBlanchedNow v_knownAt v_movedAct v_movedTerm v_now v_shireNow v_without v_actKind v_actNumber v_actShire v_actTerm v_cutWorth v_cuts v_mates v_pence v_voidAt self x1 s0 v_debt v_paid) := by
  subst t_N
  subst t_v_acts
  subst t_v_isBlanchedNow
  subst t_v_knownAt
  subst t_v_movedAct
  subst t_v_movedTerm
  subst t_v_now
  subst t_v_shireNow
  subst t_v_without
  subst t_v_actKind
  subst t_v_actNumber
  subst t_v_actShire
  subst t_v_actTerm
  subst t_v_cutWorth
  subst t_v_cuts
  subst t_v_mates
  subst t_v_pence
  subst t_v_voidAt
  subst t_x1
  subst t_s0
  subst t_v_debt
  subst t_v_paid
  unfold iM_takesPayments_b60 pM_takesPayments_b60
  refine tl_ite (jc_eq (Eq.refl (mI s0)) (Eq.refl (mI v_now))) ?_ ?_
  · refine tl_gd (jg_ib (Eq.refl (mI x1))) (fun _ => ?_)
    refine tl_ite (jc_eq (jrd (Eq.refl (mA v_actKind)) (jx (Eq.refl (mI x1)))) jlitI_2) ?_ ?_
    · refine tl_ite (jc_eq (Eq.refl (mI v_isBlanchedNow)) jlitI_0) ?_ ?_
      · exact (t_pM_takesPayments_b121 (Eq.refl N) (Eq.refl (mI v_acts)) (Eq.refl (mI v_isBlanchedNow)) (Eq.refl (mI v_knownAt)) (Eq.refl (mI v_movedAct)) (Eq.refl (mI v_movedTerm)) (Eq.refl (mI v_now)) (Eq.refl (mI v_shireNow)) (Eq.refl (mI v_without)) (Eq.refl (mA v_actKind)) (Eq.refl (mA v_actNumber)) (Eq.refl (mA v_actShire)) (Eq.refl (mA v_actTerm)) (Eq.refl (mA v_cutWorth)) (Eq.refl (mA v_cuts)) (Eq.refl (mA v_mates)) (Eq.refl (mA v_pence)) (Eq.refl (mA v_voidAt)) t_self (Eq.refl (mI x1)) (ja_i2l (jrd (Eq.refl (mA v_actNumber)) (jx (Eq.refl (mI x1))))) jlitJ_0 (Eq.refl (mJ v_debt)) (Eq.refl (mJ v_paid)))
      · refine tl_bd1 (t_pM_fireOf (Eq.refl N) (Eq.refl (mI v_now)) (Eq.refl (mI v_acts)) (Eq.refl (mI v_knownAt)) (Eq.refl (mI v_without)) (Eq.refl (mA v_actKind)) (Eq.refl (mA v_actNumber)) (Eq.refl (mA v_actTerm)) (Eq.refl (mA v_voidAt))) (fun rc7 => ?_)
        refine tl_g (fun h1 => ?_)
        refine tl_g (fun h2 => ?_)
        exact (t_pM_takesPayments_b121 (Eq.refl N) (Eq.refl (mI v_acts)) (Eq.refl (mI v_isBlanchedNow)) (Eq.refl (mI v_knownAt)) (Eq.refl (mI v_movedAct)) (Eq.refl (mI v_movedTerm)) (Eq.refl (mI v_now)) (Eq.refl (mI v_shireNow)) (Eq.refl (mI v_without)) (Eq.refl (mA v_actKind)) (Eq.refl (mA v_actNumber)) (Eq.refl (mA v_actShire)) (Eq.refl (mA v_actTerm)) (Eq.refl (mA v_cutWorth)) (Eq.refl (mA v_cuts)) (Eq.refl (mA v_mates)) (Eq.refl (mA v_pence)) (Eq.refl (mA v_voidAt)) t_self (Eq.refl (mI x1)) (ja_i2l (jrd (Eq.refl (mA v_actNumber)) (jx (Eq.refl (mI x1))))) (jL_div (jL_mul (ja_i2l (jrd (Eq.refl (mA v_actNumber)) (jx (Eq.refl (mI x1))))) (ja_i2l (Eq.refl (mI rc7))) h1) jlitJ_240 h2) (Eq.refl (mJ v_debt)) (Eq.refl (mJ v_paid)))
    · refine tl_gd (jg_ib (jrd (Eq.refl (mA v_actNumber)) (jx (Eq.refl (mI x1))))) (fun _ => ?_)
      refine tl_ite (jc_eq (jrd (Eq.refl (mA v_mates)) (jx (jrd (Eq.refl (mA v_actNumber)) (jx (Eq.refl (mI x1)))))) jlitI_m1) ?_ ?_
      · exact (t_pM_takesPayments_b153 (Eq.refl N) (Eq.refl (mI v_acts)) (Eq.refl (mI v_isBlanchedNow)) (Eq.refl (mI v_knownAt)) (Eq.refl (mI v_movedAct)) (Eq.refl (mI v_movedTerm)) (Eq.refl (mI v_now)) (Eq.refl (mI v_shireNow)) (Eq.refl (mI v_without)) (Eq.refl (mA v_actKind)) (Eq.refl (mA v_actNumber)) (Eq.refl (mA v_actShire)) (Eq.refl (mA v_actTerm)) (Eq.refl (mA v_cutWorth)) (Eq.refl (mA v_cuts)) (Eq.refl (mA v_mates)) (Eq.refl (mA v_pence)) (Eq.refl (mA v_voidAt)) t_self (Eq.refl (mI x1)) jlitJ_0 (Eq.refl (mJ v_debt)) (Eq.refl (mJ v_paid)))
      · refine tl_bd1 (t_pM_sumOf (Eq.refl N) (jrd (Eq.refl (mA v_actNumber)) (jx (Eq.refl (mI x1)))) (Eq.refl (mA v_cutWorth)) (Eq.refl (mA v_cuts)) (Eq.refl (mA v_pence))) (fun rc6 => ?_)
        exact (t_pM_takesPayments_b153 (Eq.refl N) (Eq.refl (mI v_acts)) (Eq.refl (mI v_isBlanchedNow)) (Eq.refl (mI v_knownAt)) (Eq.refl (mI v_movedAct)) (Eq.refl (mI v_movedTerm)) (Eq.refl (mI v_now)) (Eq.refl (mI v_shireNow)) (Eq.refl (mI v_without)) (Eq.refl (mA v_actKind)) (Eq.refl (mA v_actNumber)) (Eq.refl (mA v_actShire)) (Eq.refl (mA v_actTerm)) (Eq.refl (mA v_cutWorth)) (Eq.refl (mA v_cuts)) (Eq.refl (mA v_mates)) (Eq.refl (mA v_pence)) (Eq.refl (mA v_voidAt)) t_self (Eq.refl (mI x1)) (ja_i2l (Eq.refl (mI rc6))) (Eq.refl (mJ v_debt)) (Eq.refl (mJ v_paid)))
  · refine tl_g (fun h3 => ?_)
    exact (tl_e3 (ja_add (Eq.refl (mI x1)) jlitI_1 h3) (Eq.refl (mJ v_debt)) (Eq.refl (mJ v_paid)) (t_self _ _ _))
theorem t_pM_takesPayments_b2_F {N N_j : Nat} (t_N : N = N_j) {v_acts : Int32} {v_acts_j : Int} (t_v_acts : mI v_acts = v_acts_j) {v_isBlanchedNow : Int32} {v_isBlanchedNow_j : Int} (t_v_isBlanchedNow : mI v_isBlanchedNow = v_isBlanchedNow_j) {v_knownAt : Int32} {v_knownAt_j : Int} (t_v_knownAt : mI v_knownAt = v_knownAt_j) {v_movedAct : Int32} {v_movedAct_j : Int} (t_v_movedAct : mI v_movedAct = v_movedAct_j) {v_movedTerm : Int32} {v_movedTerm_j : Int} (t_v_movedTerm : mI v_movedTerm = v_movedTerm_j) {v_now : Int32} {v_now_j : Int} (t_v_now : mI v_now = v_now_j) {v_shireNow : Int32} {v_shireNow_j : Int} (t_v_shireNow : mI v_shireNow = v_shireNow_j) {v_without : Int32} {v_without_j : Int} (t_v_without : mI v_without = v_without_j) {v_actKind : (Nat → Int32)} {v_actKind_j : (Nat → Int)} (t_v_actKind : mA v_actKind = v_actKind_j) {v_actNumber : (Nat → Int32)} {v_actNumber_j : (Nat → Int)} (t_v_actNumber : mA v_actNumber = v_actNumber_j) {v_actShire : (Nat → Int32)} {v_actShire_j : (Nat → Int)} (t_v_actShire : mA v_actShire = v_actShire_j) {v_actTerm : (Nat → Int32)} {v_actTerm_j : (Nat → Int)} (t_v_actTerm : mA v_actTerm = v_actTerm_j) {v_cutWorth : (Nat → Int32)} {v_cutWorth_j : (Nat → Int)} (t_v_cutWorth : mA v_cutWorth = v_cutWorth_j) {v_cuts : (Nat → Int32)} {v_cuts_j : (Nat → Int)} (t_v_cuts : mA v_cuts = v_cuts_j) {v_mates : (Nat → Int32)} {v_mates_j : (Nat → Int)} (t_v_mates : mA v_mates = v_mates_j) {v_pence : (Nat → Int32)} {v_pence_j : (Nat → Int)} (t_v_pence : mA v_pence = v_pence_j) {v_voidAt : (Nat → Int32)} {v_voidAt_j : (Nat → Int)} (t_v_voidAt : mA v_voidAt = v_voidAt_j) {self : Int32 → Int64 → Int64 → Option R_pM_takesPayments} {self_j : Int → Int → Int → Option R_iM_takesPayments} (t_self : ∀ (q0_ : Int32) (q1_ : Int64) (q2_ : Int64), tl (mP mJ mJ) (self_j (mI q0_) (mJ q1_) (mJ q2_)) (self q0_ q1_ q2_)) {x1 : Int32} {x1_j : Int} (t_x1 : mI x1 = x1_j) {v_debt : Int64} {v_debt_j : Int} (t_v_debt : mJ v_debt = v_debt_j) {v_paid : Int64} {v_paid_j : Int} (t_v_paid : mJ v_paid = v_paid_j) : tl (mP mJ mJ) (iM_takesPayments_b2_F N_j v_acts_j v_isBlanchedNow_j v_knownAt_j v_movedAct_j v_movedTerm_j v_now_j v_shireNow_j v_without_j v_actKind_j v_actNumber_j v_actShire_j v_actTerm_j v_cutWorth_j v_cuts_j v_mates_j v_pence_j v_voidAt_j self_j x1_j v_debt_j v_paid_j) (pM_takesPayments_b2_F N v_acts v_isBlanchedNow v_knownAt v_movedAct v_movedTerm v_now v_shireNow v_without v_actKind v_actNumber v_actShire v_actTerm v_cutWorth v_cuts v_mates v_pence v_voidAt self x1 v_debt v_paid) := by
  subst t_N
  subst t_v_acts
  subst t_v_isBlanchedNow
  subst t_v_knownAt
  subst t_v_movedAct
  subst t_v_movedTerm
  subst t_v_now
  subst t_v_shireNow
  subst t_v_without
  subst t_v_actKind
  subst t_v_actNumber
  subst t_v_actShire
  subst t_v_actTerm
  subst t_v_cutWorth
  subst t_v_cuts
  subst t_v_mates
  subst t_v_pence
  subst t_v_voidAt
  subst t_x1
  subst t_v_debt
  subst t_v_paid
  unfold iM_takesPayments_b2_F pM_takesPayments_b2_F
  refine tl_ite (jc_lt (Eq.refl (mI v_acts)) (Eq.refl (mI x1))) ?_ ?_
  · exact (tl_some (jp2 (Eq.refl (mJ v_debt)) (Eq.refl (mJ v_paid))))
  · refine tl_bd1 (t_pM_isPayment (Eq.refl (mI x1)) (Eq.refl (mA v_actKind))) (fun rc1 => ?_)
    refine tl_ite (jc_eq (Eq.refl (mI rc1)) jlitI_0) ?_ ?_
    · refine tl_g (fun h1 => ?_)
      exact (tl_e3 (ja_add (Eq.refl (mI x1)) jlitI_1 h1) (Eq.refl (mJ v_debt)) (Eq.refl (mJ v_paid)) (t_self _ _ _))
    · refine tl_bd1 (t_pM_isKnown (Eq.refl (mI x1)) (Eq.refl (mI v_knownAt)) (Eq.refl (mI v_without)) (Eq.refl (mA v_voidAt))) (fun rc2 => ?_)
      refine tl_ite (jc_eq (Eq.refl (mI rc2)) jlitI_0) ?_ ?_
      · refine tl_g (fun h2 => ?_)
        exact (tl_e3 (ja_add (Eq.refl (mI x1)) jlitI_1 h2) (Eq.refl (mJ v_debt)) (Eq.refl (mJ v_paid)) (t_self _ _ _))
      · refine tl_gd (jg_ib (Eq.refl (mI x1))) (fun _ => ?_)
        refine tl_ite (jc_eq (jrd (Eq.refl (mA v_actShire)) (jx (Eq.refl (mI x1)))) (Eq.refl (mI v_shireNow))) ?_ ?_
        · refine tl_ite (jc_eq (Eq.refl (mI x1)) (Eq.refl (mI v_movedAct))) ?_ ?_
          · exact (t_pM_takesPayments_b60 (Eq.refl N) (Eq.refl (mI v_acts)) (Eq.refl (mI v_isBlanchedNow)) (Eq.refl (mI v_knownAt)) (Eq.refl (mI v_movedAct)) (Eq.refl (mI v_movedTerm)) (Eq.refl (mI v_now)) (Eq.refl (mI v_shireNow)) (Eq.refl (mI v_without)) (Eq.refl (mA v_actKind)) (Eq.refl (mA v_actNumber)) (Eq.refl (mA v_actShire)) (Eq.refl (mA v_actTerm)) (Eq.refl (mA v_cutWorth)) (Eq.refl (mA v_cuts)) (Eq.refl (mA v_mates)) (Eq.refl (mA v_pence)) (Eq.refl (mA v_voidAt)) t_self (Eq.refl (mI x1)) (Eq.refl (mI v_movedTerm)) (Eq.refl (mJ v_debt)) (Eq.refl (mJ v_paid)))
          · exact (t_pM_takesPayments_b60 (Eq.refl N) (Eq.refl (mI v_acts)) (Eq.refl (mI v_isBlanchedNow)) (Eq.refl (mI v_knownAt)) (Eq.refl (mI v_movedAct)) (Eq.refl (mI v_movedTerm)) (Eq.refl (mI v_now)) (Eq.refl (mI v_shireNow)) (Eq.refl (mI v_without)) (Eq.refl (mA v_actKind)) (Eq.refl (mA v_actNumber)) (Eq.refl (mA v_actShire)) (Eq.refl (mA v_actTerm)) (Eq.refl (mA v_cutWorth)) (Eq.refl (mA v_cuts)) (Eq.refl (mA v_mates)) (Eq.refl (mA v_pence)) (Eq.refl (mA v_voidAt)) t_self (Eq.refl (mI x1)) (jrd (Eq.refl (mA v_actTerm)) (jx (Eq.refl (mI x1)))) (Eq.refl (mJ v_debt)) (Eq.refl (mJ v_paid)))
        · refine tl_g (fun h3 => ?_)
          exact (tl_e3 (ja_add (Eq.refl (mI x1)) jlitI_1 h3) (Eq.refl (mJ v_debt)) (Eq.refl (mJ v_paid)) (t_self _ _ _))
theorem t_pM_takesPayments_b2 {N N_j : Nat} (t_N : N = N_j) {v_acts : Int32} {v_acts_j : Int} (t_v_acts : mI v_acts = v_acts_j) {v_isBlanchedNow : Int32} {v_isBlanchedNow_j : Int} (t_v_isBlanchedNow : mI v_isBlanchedNow = v_isBlanchedNow_j) {v_knownAt : Int32} {v_knownAt_j : Int} (t_v_knownAt : mI v_knownAt = v_knownAt_j) {v_movedAct : Int32} {v_movedAct_j : Int} (t_v_movedAct : mI v_movedAct = v_movedAct_j) {v_movedTerm : Int32} {v_movedTerm_j : Int} (t_v_movedTerm : mI v_movedTerm = v_movedTerm_j) {v_now : Int32} {v_now_j : Int} (t_v_now : mI v_now = v_now_j) {v_shireNow : Int32} {v_shireNow_j : Int} (t_v_shireNow : mI v_shireNow = v_shireNow_j) {v_without : Int32} {v_without_j : Int} (t_v_without : mI v_without = v_without_j) {v_actKind : (Nat → Int32)} {v_actKind_j : (Nat → Int)} (t_v_actKind : mA v_actKind = v_actKind_j) {v_actNumber : (Nat → Int32)} {v_actNumber_j : (Nat → Int)} (t_v_actNumber : mA v_actNumber = v_actNumber_j) {v_actShire : (Nat → Int32)} {v_actShire_j : (Nat → Int)} (t_v_actShire : mA v_actShire = v_actShire_j) {v_actTerm : (Nat → Int32)} {v_actTerm_j : (Nat → Int)} (t_v_actTerm : mA v_actTerm = v_actTerm_j) {v_cutWorth : (Nat → Int32)} {v_cutWorth_j : (Nat → Int)} (t_v_cutWorth : mA v_cutWorth = v_cutWorth_j) {v_cuts : (Nat → Int32)} {v_cuts_j : (Nat → Int)} (t_v_cuts : mA v_cuts = v_cuts_j) {v_mates : (Nat → Int32)} {v_mates_j : (Nat → Int)} (t_v_mates : mA v_mates = v_mates_j) {v_pence : (Nat → Int32)} {v_pence_j : (Nat → Int)} (t_v_pence : mA v_pence = v_pence_j) {v_voidAt : (Nat → Int32)} {v_voidAt_j : (Nat → Int)} (t_v_voidAt : mA v_voidAt = v_voidAt_j) {n n_j : Nat} (t_n : n = n_j) {w0_ : Int32} {w0__j : Int} (t_w0_ : mI w0_ = w0__j) {w1_ : Int64} {w1__j : Int} (t_w1_ : mJ w1_ = w1__j) {w2_ : Int64} {w2__j : Int} (t_w2_ : mJ w2_ = w2__j) : tl (mP mJ mJ) (iM_takesPayments_b2 N_j v_acts_j v_isBlanchedNow_j v_knownAt_j v_movedAct_j v_movedTerm_j v_now_j v_shireNow_j v_without_j v_actKind_j v_actNumber_j v_actShire_j v_actTerm_j v_cutWorth_j v_cuts_j v_mates_j v_pence_j v_voidAt_j n_j w0__j w1__j w2__j) (pM_takesPayments_b2 N v_acts v_isBlanchedNow v_knownAt v_movedAct v_movedTerm v_now v_shireNow v_without v_actKind v_actNumber v_actShire v_actTerm v_cutWorth v_cuts v_mates v_pence v_voidAt n w0_ w1_ w2_) := by
  subst t_N
  subst t_v_acts
  subst t_v_isBlanchedNow
  subst t_v_knownAt
  subst t_v_movedAct
  subst t_v_movedTerm
  subst t_v_now
  subst t_v_shireNow
  subst t_v_without
  subst t_v_actKind
  subst t_v_actNumber
  subst t_v_actShire
  subst t_v_actTerm
  subst t_v_cutWorth
  subst t_v_cuts
  subst t_v_mates
  subst t_v_pence
  subst t_v_voidAt
  subst t_n
  subst t_w0_
  subst t_w1_
  subst t_w2_
  exact tl_zlp3 (fun s2 s hs w0_ w1_ w2_ => t_pM_takesPayments_b2_F (Eq.refl N) (Eq.refl (mI v_acts)) (Eq.refl (mI v_isBlanchedNow)) (Eq.refl (mI v_knownAt)) (Eq.refl (mI v_movedAct)) (Eq.refl (mI v_movedTerm)) (Eq.refl (mI v_now)) (Eq.refl (mI v_shireNow)) (Eq.refl (mI v_without)) (Eq.refl (mA v_actKind)) (Eq.refl (mA v_actNumber)) (Eq.refl (mA v_actShire)) (Eq.refl (mA v_actTerm)) (Eq.refl (mA v_cutWorth)) (Eq.refl (mA v_cuts)) (Eq.refl (mA v_mates)) (Eq.refl (mA v_pence)) (Eq.refl (mA v_voidAt)) hs (Eq.refl (mI w0_)) (Eq.refl (mJ w1_)) (Eq.refl (mJ w2_))) n w0_ w1_ w2_
theorem t_pM_takesPayments {N N_j : Nat} (t_N : N = N_j) {v_acts : Int32} {v_acts_j : Int} (t_v_acts : mI v_acts = v_acts_j) {v_debt : Int64} {v_debt_j : Int} (t_v_debt : mJ v_debt = v_debt_j) {v_isBlanchedNow : Int32} {v_isBlanchedNow_j : Int} (t_v_isBlanchedNow : mI v_isBlanchedNow = v_isBlanchedNow_j) {v_knownAt : Int32} {v_knownAt_j : Int} (t_v_knownAt : mI v_knownAt = v_knownAt_j) {v_movedAct : Int32} {v_movedAct_j : Int} (t_v_movedAct : mI v_movedAct = v_movedAct_j) {v_movedTerm : Int32} {v_movedTerm_j : Int} (t_v_movedTerm : mI v_movedTerm = v_movedTerm_j) {v_now : Int32} {v_now_j : Int} (t_v_now : mI v_now = v_now_j) {v_paid : Int64} {v_paid_j : Int} (t_v_paid : mJ v_paid = v_paid_j) {v_shireNow : Int32} {v_shireNow_j : Int} (t_v_shireNow : mI v_shireNow = v_shireNow_j) {v_without : Int32} {v_without_j : Int} (t_v_without : mI v_without = v_without_j) {v_actKind : (Nat → Int32)} {v_actKind_j : (Nat → Int)} (t_v_actKind : mA v_actKind = v_actKind_j) {v_actNumber : (Nat → Int32)} {v_actNumber_j : (Nat → Int)} (t_v_actNumber : mA v_actNumber = v_actNumber_j) {v_actShire : (Nat → Int32)} {v_actShire_j : (Nat → Int)} (t_v_actShire : mA v_actShire = v_actShire_j) {v_actTerm : (Nat → Int32)} {v_actTerm_j : (Nat → Int)} (t_v_actTerm : mA v_actTerm = v_actTerm_j) {v_cutWorth : (Nat → Int32)} {v_cutWorth_j : (Nat → Int)} (t_v_cutWorth : mA v_cutWorth = v_cutWorth_j) {v_cuts : (Nat → Int32)} {v_cuts_j : (Nat → Int)} (t_v_cuts : mA v_cuts = v_cuts_j) {v_mates : (Nat → Int32)} {v_mates_j : (Nat → Int)} (t_v_mates : mA v_mates = v_mates_j) {v_pence : (Nat → Int32)} {v_pence_j : (Nat → Int)} (t_v_pence : mA v_pence = v_pence_j) {v_voidAt : (Nat → Int32)} {v_voidAt_j : (Nat → Int)} (t_v_voidAt : mA v_voidAt = v_voidAt_j) : tl (mP mJ mJ) (iM_takesPayments N_j v_acts_j v_debt_j v_isBlanchedNow_j v_knownAt_j v_movedAct_j v_movedTerm_j v_now_j v_paid_j v_shireNow_j v_without_j v_actKind_j v_actNumber_j v_actShire_j v_actTerm_j v_cutWorth_j v_cuts_j v_mates_j v_pence_j v_voidAt_j) (pM_takesPayments N v_acts v_debt v_isBlanchedNow v_knownAt v_movedAct v_movedTerm v_now v_paid v_shireNow v_without v_actKind v_actNumber v_actShire v_actTerm v_cutWorth v_cuts v_mates v_pence v_voidAt) := by
  subst t_N
  subst t_v_acts
  subst t_v_debt
  subst t_v_isBlanchedNow
  subst t_v_knownAt
  subst t_v_movedAct
  subst t_v_movedTerm
  subst t_v_now
  subst t_v_paid
  subst t_v_shireNow
  subst t_v_without
  subst t_v_actKind
  subst t_v_actNumber
  subst t_v_actShire
  subst t_v_actTerm
  subst t_v_cutWorth
  subst t_v_cuts
  subst t_v_mates
  subst t_v_pence
  subst t_v_voidAt
  unfold iM_takesPayments pM_takesPayments
  exact (t_pM_takesPayments_b2 (Eq.refl N) (Eq.refl (mI v_acts)) (Eq.refl (mI v_isBlanchedNow)) (Eq.refl (mI v_knownAt)) (Eq.refl (mI v_movedAct)) (Eq.refl (mI v_movedTerm)) (Eq.refl (mI v_now)) (Eq.refl (mI v_shireNow)) (Eq.refl (mI v_without)) (Eq.refl (mA v_actKind)) (Eq.refl (mA v_actNumber)) (Eq.refl (mA v_actShire)) (Eq.refl (mA v_actTerm)) (Eq.refl (mA v_cutWorth)) (Eq.refl (mA v_cuts)) (Eq.refl (mA v_mates)) (Eq.refl (mA v_pence)) (Eq.refl (mA v_voidAt)) (Eq.refl N) jlitI_1 (Eq.refl (mJ v_debt)) (Eq.refl (mJ v_paid)))
theorem t_pM_rolls_b2_F {N N_j : Nat} (t_N : N = N_j) {a1 : Int32} {a1_j : Int} (t_a1 : mI a1 = a1_j) {a2 : Int32} {a2_j : Int} (t_a2 : mI a2 = a2_j) {v_acts : Int32} {v_acts_j : Int} (t_v_acts : mI v_acts = v_acts_j) {v_knownAt : Int32} {v_knownAt_j : Int} (t_v_knownAt : mI v_knownAt = v_knownAt_j) {v_movedAct : Int32} {v_movedAct_j : Int} (t_v_movedAct : mI v_movedAct = v_movedAct_j) {v_movedTerm : Int32} {v_movedTerm_j : Int} (t_v_movedTerm : mI v_movedTerm = v_movedTerm_j) {v_without : Int32} {v_without_j : Int} (t_v_without : mI v_without = v_without_j) {v_actKind : (Nat → Int32)} {v_actKind_j : (Nat → Int)} (t_v_actKind : mA v_actKind = v_actKind_j) {v_actNumber : (Nat → Int32)} {v_actNumber_j : (Nat → Int)} (t_v_actNumber : mA v_actNumber = v_actNumber_j) {v_actShire : (Nat → Int32)} {v_actShire_j : (Nat → Int)} (t_v_actShire : mA v_actShire = v_actShire_j) {v_actTerm : (Nat → Int32)} {v_actTerm_j : (Nat → Int)} (t_v_actTerm : mA v_actTerm = v_actTerm_j) {v_codes : (Nat → Int32)} {v_codes_j : (Nat → Int)} (t_v_codes : mA v_codes = v_codes_j) {v_cutWorth : (Nat → Int32)} {v_cutWorth_j : (Nat → Int)} (t_v_cutWorth : mA v_cutWorth = v_cutWorth_j) {v_cuts : (Nat → Int32)} {v_cuts_j : (Nat → Int)} (t_v_cuts : mA v_cuts = v_cuts_j) {v_first : (Nat → Int32)} {v_first_j : (Nat → Int)} (t_v_first : mA v_first = v_first_j) {v_isBlanched : (Nat → Int32)} {v_isBlanched_j : (Nat → Int)} (t_v_isBlanched : mA v_isBlanched = v_isBlanched_j) {v_many : (Nat → Int32)} {v_many_j : (Nat → Int)} (t_v_many : mA v_many = v_many_j) {v_mates : (Nat → Int32)} {v_mates_j : (Nat → Int)} (t_v_mates : mA v_mates = v_mates_j) {v_pence : (Nat → Int32)} {v_pence_j : (Nat → Int)} (t_v_pence : mA v_pence = v_pence_j) {v_second : (Nat → Int32)} {v_second_j : (Nat → Int)} (t_v_second : mA v_second = v_second_j) {v_sort : (Nat → Int32)} {v_sort_j : (Nat → Int)} (t_v_sort : mA v_sort = v_sort_j) {v_sumEnd : (Nat → Int32)} {v_sumEnd_j : (Nat → Int)} (t_v_sumEnd : mA v_sumEnd = v_sumEnd_j) {v_sumFrom : (Nat → Int32)} {v_sumFrom_j : (Nat → Int)} (t_v_sumFrom : mA v_sumFrom = v_sumFrom_j) {v_testEnd : (Nat → Int32)} {v_testEnd_j : (Nat → Int)} (t_v_testEnd : mA v_testEnd = v_testEnd_j) {v_voidAt : (Nat → Int32)} {v_voidAt_j : (Nat → Int)} (t_v_voidAt : mA v_voidAt = v_voidAt_j) {v_allowed : Int64} {v_allowed_j : Int} (t_v_allowed : mJ v_allowed = v_allowed_j) {v_debt : Int64} {v_debt_j : Int} (t_v_debt : mJ v_debt = v_debt_j) {v_farms : Int64} {v_farms_j : Int} (t_v_farms : mJ v_farms = v_farms_j) {v_isBlanchedNow : Int32} {v_isBlanchedNow_j : Int} (t_v_isBlanchedNow : mI v_isBlanchedNow = v_isBlanchedNow_j) {v_now : Int32} {v_now_j : Int} (t_v_now : mI v_now = v_now_j) {v_paid : Int64} {v_paid_j : Int} (t_v_paid : mJ v_paid = v_paid_j) {v_paidTold : Int64} {v_paidTold_j : Int} (t_v_paidTold : mJ v_paidTold = v_paidTold_j) {v_pardoned : Int64} {v_pardoned_j : Int} (t_v_pardoned : mJ v_pardoned = v_pardoned_j) {v_piled : Int32} {v_piled_j : Int} (t_v_piled : mI v_piled = v_piled_j) {v_shireNow : Int32} {v_shireNow_j : Int} (t_v_shireNow : mI v_shireNow = v_shireNow_j) {v_pile : (Nat → Int64)} {v_pile_j : (Nat → Int)} (t_v_pile : mL v_pile = v_pile_j) {k21 : (Nat → Int64) → Option R_pM_rolls} {k21_j : (Nat → Int) → Option R_iM_rolls} (t_k21 : ∀ (q0_ : (Nat → Int64)), tl (mP mJ (mP mJ (mP mJ (mP mJ (mP mI (mP mI (mP mJ (mP mJ (mP mJ (mP mI (mP mI (mP mL mL)))))))))))) (k21_j (mL q0_)) (k21 q0_)) {self : Int32 → (Nat → Int64) → Option R_pM_rolls} {self_j : Int → (Nat → Int) → Option R_iM_rolls} (t_self : ∀ (q0_ : Int32) (q1_ : (Nat → Int64)), tl (mP mJ (mP mJ (mP mJ (mP mJ (mP mI (mP mI (mP mJ (mP mJ (mP mJ (mP mI (mP mI (mP mL mL)))))))))))) (self_j (mI q0_) (mL q1_)) (self q0_ q1_)) {x3 : Int32} {x3_j : Int} (t_x3 : mI x3 = x3_j) {v_off : (Nat → Int64)} {v_off_j : (Nat → Int)} (t_v_off : mL v_off = v_off_j) : tl (mP mJ (mP mJ (mP mJ (mP mJ (mP mI (mP mI (mP mJ (mP mJ (mP mJ (mP mI (mP mI (mP mL mL)))))))))))) (iM_rolls_b2_F N_j a1_j a2_j v_acts_j v_knownAt_j v_movedAct_j v_movedTerm_j v_without_j v_actKind_j v_actNumber_j v_actShire_j v_actTerm_j v_codes_j v_cutWorth_j v_cuts_j v_first_j v_isBlanched_j v_many_j v_mates_j v_pence_j v_second_j v_sort_j v_sumEnd_j v_sumFrom_j v_testEnd_j v_voidAt_j v_allowed_j v_debt_j v_farms_j v_isBlanchedNow_j v_now_j v_paid_j v_paidTold_j v_pardoned_j v_piled_j v_shireNow_j v_pile_j k21_j self_j x3_j v_off_j) (pM_rolls_b2_F N a1 a2 v_acts v_knownAt v_movedAct v_movedTerm v_without v_actKind v_actNumber v_actShire v_actTerm v_codes v_cutWorth v_cuts v_first v_isBlanched v_many v_mates v_pence v_second v_sort v_sumEnd v_sumFrom v_testEnd v_voidAt v_allowed v_debt v_farms v_isBlanchedNow v_now v_paid v_paidTold v_pardoned v_piled v_shireNow v_pile k21 self x3 v_off) := by
  subst t_N
  subst t_a1
  subst t_a2
  subst t_v_acts
  subst t_v_knownAt
  subst t_v_movedAct
  subst t_v_movedTerm
  subst t_v_without
  subst t_v_actKind
  subst t_v_actNumber
  subst t_v_actShire
  subst t_v_actTerm
  subst t_v_codes
  subst t_v_cutWorth
  subst t_v_cuts
  subst t_v_first
  subst t_v_isBlanched
  subst t_v_many
  subst t_v_mates
  subst t_v_pence
  subst t_v_second
  subst t_v_sort
  subst t_v_sumEnd
  subst t_v_sumFrom
  subst t_v_testEnd
  subst t_v_voidAt
  subst t_v_allowed
  subst t_v_debt
  subst t_v_farms
  subst t_v_isBlanchedNow
  subst t_v_now
  subst t_v_paid
  subst t_v_paidTold
  subst t_v_pardoned
  subst t_v_piled
  subst t_v_shireNow
  subst t_v_pile
  subst t_x3
  subst t_v_off
  unfold iM_rolls_b2_F pM_rolls_b2_F
  refine tl_ite (jc_le jlitI_60 (Eq.refl (mI x3))) ?_ ?_
  · exact (tl_e1 (Eq.refl (mL v_off)) (t_k21 _))
  · refine tl_gd (jg_ib (Eq.refl (mI x3))) (fun _ => ?_)
    refine tl_g (fun h1 => ?_)
    exact (tl_e2 (ja_add (Eq.refl (mI x3)) jlitI_1 h1) (jupL (Eq.refl (mL v_off)) (jx (Eq.refl (mI x3))) jlitJ_0) (t_self _ _))
theorem t_pM_rolls_b2 {N N_j : Nat} (t_N : N = N_j) {a1 : Int32} {a1_j : Int} (t_a1 : mI a1 = a1_j) {a2 : Int32} {a2_j : Int} (t_a2 : mI a2 = a2_j) {v_acts : Int32} {v_acts_j : Int} (t_v_acts : mI v_acts = v_acts_j) {v_knownAt : Int32} {v_knownAt_j : Int} (t_v_knownAt : mI v_knownAt = v_knownAt_j) {v_movedAct : Int32} {v_movedAct_j : Int} (t_v_movedAct : mI v_movedAct = v_movedAct_j) {v_movedTerm : Int32} {v_movedTerm_j : Int} (t_v_movedTerm : mI v_movedTerm = v_movedTerm_j) {v_without : Int32} {v_without_j : Int} (t_v_without : mI v_without = v_without_j) {v_actKind : (Nat → Int32)} {v_actKind_j : (Nat → Int)} (t_v_actKind : mA v_actKind = v_actKind_j) {v_actNumber : (Nat → Int32)} {v_actNumber_j : (Nat → Int)} (t_v_actNumber : mA v_actNumber = v_actNumber_j) {v_actShire : (Nat → Int32)} {v_actShire_j : (Nat → Int)} (t_v_actShire : mA v_actShire = v_actShire_j) {v_actTerm : (Nat → Int32)} {v_actTerm_j : (Nat → Int)} (t_v_actTerm : mA v_actTerm = v_actTerm_j) {v_codes : (Nat → Int32)} {v_codes_j : (Nat → Int)} (t_v_codes : mA v_codes = v_codes_j) {v_cutWorth : (Nat → Int32)} {v_cutWorth_j : (Nat → Int)} (t_v_cutWorth : mA v_cutWorth = v_cutWorth_j) {v_cuts : (Nat → Int32)} {v_cuts_j : (Nat → Int)} (t_v_cuts : mA v_cuts = v_cuts_j) {v_first : (Nat → Int32)} {v_first_j : (Nat → Int)} (t_v_first : mA v_first = v_first_j) {v_isBlanched : (Nat → Int32)} {v_isBlanched_j : (Nat → Int)} (t_v_isBlanched : mA v_isBlanched = v_isBlanched_j) {v_many : (Nat → Int32)} {v_many_j : (Nat → Int)} (t_v_many : mA v_many = v_many_j) {v_mates : (Nat → Int32)} {v_mates_j : (Nat → Int)} (t_v_mates : mA v_mates = v_mates_j) {v_pence : (Nat → Int32)} {v_pence_j : (Nat → Int)} (t_v_pence : mA v_pence = v_pence_j) {v_second : (Nat → Int32)} {v_second_j : (Nat → Int)} (t_v_second : mA v_second = v_second_j) {v_sort : (Nat → Int32)} {v_sort_j : (Nat → Int)} (t_v_sort : mA v_sort = v_sort_j) {v_sumEnd : (Nat → Int32)} {v_sumEnd_j : (Nat → Int)} (t_v_sumEnd : mA v_sumEnd = v_sumEnd_j) {v_sumFrom : (Nat → Int32)} {v_sumFrom_j : (Nat → Int)} (t_v_sumFrom : mA v_sumFrom = v_sumFrom_j) {v_testEnd : (Nat → Int32)} {v_testEnd_j : (Nat → Int)} (t_v_testEnd : mA v_testEnd = v_testEnd_j) {v_voidAt : (Nat → Int32)} {v_voidAt_j : (Nat → Int)} (t_v_voidAt : mA v_voidAt = v_voidAt_j) {v_allowed : Int64} {v_allowed_j : Int} (t_v_allowed : mJ v_allowed = v_allowed_j) {v_debt : Int64} {v_debt_j : Int} (t_v_debt : mJ v_debt = v_debt_j) {v_farms : Int64} {v_farms_j : Int} (t_v_farms : mJ v_farms = v_farms_j) {v_isBlanchedNow : Int32} {v_isBlanchedNow_j : Int} (t_v_isBlanchedNow : mI v_isBlanchedNow = v_isBlanchedNow_j) {v_now : Int32} {v_now_j : Int} (t_v_now : mI v_now = v_now_j) {v_paid : Int64} {v_paid_j : Int} (t_v_paid : mJ v_paid = v_paid_j) {v_paidTold : Int64} {v_paidTold_j : Int} (t_v_paidTold : mJ v_paidTold = v_paidTold_j) {v_pardoned : Int64} {v_pardoned_j : Int} (t_v_pardoned : mJ v_pardoned = v_pardoned_j) {v_piled : Int32} {v_piled_j : Int} (t_v_piled : mI v_piled = v_piled_j) {v_shireNow : Int32} {v_shireNow_j : Int} (t_v_shireNow : mI v_shireNow = v_shireNow_j) {v_pile : (Nat → Int64)} {v_pile_j : (Nat → Int)} (t_v_pile : mL v_pile = v_pile_j) {k21 : (Nat → Int64) → Option R_pM_rolls} {k21_j : (Nat → Int) → Option R_iM_rolls} (t_k21 : ∀ (q0_ : (Nat → Int64)), tl (mP mJ (mP mJ (mP mJ (mP mJ (mP mI (mP mI (mP mJ (mP mJ (mP mJ (mP mI (mP mI (mP mL mL)))))))))))) (k21_j (mL q0_)) (k21 q0_)) {n n_j : Nat} (t_n : n = n_j) {w0_ : Int32} {w0__j : Int} (t_w0_ : mI w0_ = w0__j) {w1_ : (Nat → Int64)} {w1__j : (Nat → Int)} (t_w1_ : mL w1_ = w1__j) : tl (mP mJ (mP mJ (mP mJ (mP mJ (mP mI (mP mI (mP mJ (mP mJ (mP mJ (mP mI (mP mI (mP mL mL)))))))))))) (iM_rolls_b2 N_j a1_j a2_j v_acts_j v_knownAt_j v_movedAct_j v_movedTerm_j v_without_j v_actKind_j v_actNumber_j v_actShire_j v_actTerm_j v_codes_j v_cutWorth_j v_cuts_j v_first_j v_isBlanched_j v_many_j v_mates_j v_pence_j v_second_j v_sort_j v_sumEnd_j v_sumFrom_j v_testEnd_j v_voidAt_j v_allowed_j v_debt_j v_farms_j v_isBlanchedNow_j v_now_j v_paid_j v_paidTold_j v_pardoned_j v_piled_j v_shireNow_j v_pile_j k21_j n_j w0__j w1__j) (pM_rolls_b2 N a1 a2 v_acts v_knownAt v_movedAct v_movedTerm v_without v_actKind v_actNumber v_actShire v_actTerm v_codes v_cutWorth v_cuts v_first v_isBlanched v_many v_mates v_pence v_second v_sort v_sumEnd v_sumFrom v_testEnd v_voidAt v_allowed v_debt v_farms v_isBlanchedNow v_now v_paid v_paidTold v_pardoned v_piled v_shireNow v_pile k21 n w0_ w1_) := by
  subst t_N
  subst t_a1
  subst t_a2
  subst t_v_acts
  subst t_v_knownAt
  subst t_v_movedAct
  subst t_v_movedTerm
  subst t_v_without
  subst t_v_actKind
  subst t_v_actNumber
  subst t_v_actShire
  subst t_v_actTerm
  subst t_v_codes
  subst t_v_cutWorth
  subst t_v_cuts
  subst t_v_first
  subst t_v_isBlanched
  subst t_v_many
  subst t_v_mates
  subst t_v_pence
  subst t_v_second
  subst t_v_sort
  subst t_v_sumEnd
  subst t_v_sumFrom
  subst t_v_testEnd
  subst t_v_voidAt
  subst t_v_allowed
  subst t_v_debt
  subst t_v_farms
  subst t_v_isBlanchedNow
  subst t_v_now
  subst t_v_paid
  subst t_v_paidTold
  subst t_v_pardoned
  subst t_v_piled
  subst t_v_shireNow
  subst t_v_pile
  subst t_n
  subst t_w0_
  subst t_w1_
  exact tl_zlp2 (fun s2 s hs w0_ w1_ => t_pM_rolls_b2_F (Eq.refl N) (Eq.refl (mI a1)) (Eq.refl (mI a2)) (Eq.refl (mI v_acts)) (Eq.refl (mI v_knownAt)) (Eq.refl (mI v_movedAct)) (Eq.refl (mI v_movedTerm)) (Eq.refl (mI v_without)) (Eq.refl (mA v_actKind)) (Eq.refl (mA v_actNumber)) (Eq.refl (mA v_actShire)) (Eq.refl (mA v_actTerm)) (Eq.refl (mA v_codes)) (Eq.refl (mA v_cutWorth)) (Eq.refl (mA v_cuts)) (Eq.refl (mA v_first)) (Eq.refl (mA v_isBlanched)) (Eq.refl (mA v_many)) (Eq.refl (mA v_mates)) (Eq.refl (mA v_pence)) (Eq.refl (mA v_second)) (Eq.refl (mA v_sort)) (Eq.refl (mA v_sumEnd)) (Eq.refl (mA v_sumFrom)) (Eq.refl (mA v_testEnd)) (Eq.refl (mA v_voidAt)) (Eq.refl (mJ v_allowed)) (Eq.refl (mJ v_debt)) (Eq.refl (mJ v_farms)) (Eq.refl (mI v_isBlanchedNow)) (Eq.refl (mI v_now)) (Eq.refl (mJ v_paid)) (Eq.refl (mJ v_paidTold)) (Eq.refl (mJ v_pardoned)) (Eq.refl (mI v_piled)) (Eq.refl (mI v_shireNow)) (Eq.refl (mL v_pile)) t_k21 hs (Eq.refl (mI w0_)) (Eq.refl (mL w1_))) n w0_ w1_
theorem t_pM_rolls_b134 {N N_j : Nat} (t_N : N = N_j) {a1 : Int32} {a1_j : Int} (t_a1 : mI a1 = a1_j) {a2 : Int32} {a2_j : Int} (t_a2 : mI a2 = a2_j) {v_acts : Int32} {v_acts_j : Int} (t_v_acts : mI v_acts = v_acts_j) {v_knownAt : Int32} {v_knownAt_j : Int} (t_v_knownAt : mI v_knownAt = v_knownAt_j) {v_movedAct : Int32} {v_movedAct_j : Int} (t_v_movedAct : mI v_movedAct = v_movedAct_j) {v_movedTerm : Int32} {v_movedTerm_j : Int} (t_v_movedTerm : mI v_movedTerm = v_movedTerm_j) {v_without : Int32} {v_without_j : Int} (t_v_without : mI v_without = v_without_j) {v_actKind : (Nat → Int32)} {v_actKind_j : (Nat → Int)} (t_v_actKind : mA v_actKind = v_actKind_j) {v_actNumber : (Nat → Int32)} {v_actNumber_j : (Nat → Int)} (t_v_actNumber : mA v_actNumber = v_actNumber_j) {v_actShire : (Nat → Int32)} {v_actShire_j : (Nat → Int)} (t_v_actShire : mA v_actShire = v_actShire_j) {v_actTerm : (Nat → Int32)} {v_actTerm_j : (Nat → Int)} (t_v_actTerm : mA v_actTerm = v_actTerm_j) {v_codes : (Nat → Int32)} {v_codes_j : (Nat → Int)} (t_v_codes : mA v_codes = v_codes_j) {v_cutWorth : (Nat → Int32)} {v_cutWorth_j : (Nat → Int)} (t_v_cutWorth : mA v_cutWorth = v_cutWorth_j) {v_cuts : (Nat → Int32)} {v_cuts_j : (Nat → Int)} (t_v_cuts : mA v_cuts = v_cuts_j) {v_first : (Nat → Int32)} {v_first_j : (Nat → Int)} (t_v_first : mA v_first = v_first_j) {v_isBlanched : (Nat → Int32)} {v_isBlanched_j : (Nat → Int)} (t_v_isBlanched : mA v_isBlanched = v_isBlanched_j) {v_many : (Nat → Int32)} {v_many_j : (Nat → Int)} (t_v_many : mA v_many = v_many_j) {v_mates : (Nat → Int32)} {v_mates_j : (Nat → Int)} (t_v_mates : mA v_mates = v_mates_j) {v_pence : (Nat → Int32)} {v_pence_j : (Nat → Int)} (t_v_pence : mA v_pence = v_pence_j) {v_second : (Nat → Int32)} {v_second_j : (Nat → Int)} (t_v_second : mA v_second = v_second_j) {v_sort : (Nat → Int32)} {v_sort_j : (Nat → Int)} (t_v_sort : mA v_sort = v_sort_j) {v_sumEnd : (Nat → Int32)} {v_sumEnd_j : (Nat → Int)} (t_v_sumEnd : mA v_sumEnd = v_sumEnd_j) {v_sumFrom : (Nat → Int32)} {v_sumFrom_j : (Nat → Int)} (t_v_sumFrom : mA v_sumFrom = v_sumFrom_j) {v_testEnd : (Nat → Int32)} {v_testEnd_j : (Nat → Int)} (t_v_testEnd : mA v_testEnd = v_testEnd_j) {v_voidAt : (Nat → Int32)} {v_voidAt_j : (Nat → Int)} (t_v_voidAt : mA v_voidAt = v_voidAt_j) {self : Int32 → Int64 → Int64 → Int64 → Int32 → Int32 → Int64 → Int64 → Int64 → Int32 → (Nat → Int64) → (Nat → Int64) → Option R_pM_rolls} {self_j : Int → Int → Int → Int → Int → Int → Int → Int → Int → Int → (Nat → Int) → (Nat → Int) → Option R_iM_rolls} (t_self : ∀ (q0_ : Int32) (q1_ : Int64) (q2_ : Int64) (q3_ : Int64) (q4_ : Int32) (q5_ : Int32) (q6_ : Int64) (q7_ : Int64) (q8_ : Int64) (q9_ : Int32) (q10_ : (Nat → Int64)) (q11_ : (Nat → Int64)), tl (mP mJ (mP mJ (mP mJ (mP mJ (mP mI (mP mI (mP mJ (mP mJ (mP mJ (mP mI (mP mI (mP mL mL)))))))))))) (self_j (mI q0_) (mJ q1_) (mJ q2_) (mJ q3_) (mI q4_) (mI q5_) (mJ q6_) (mJ q7_) (mJ q8_) (mI q9_) (mL q10_) (mL q11_)) (self q0_ q1_ q2_ q3_ q4_ q5_ q6_ q7_ q8_ q9_ q10_ q11_)) {x3 : Int32} {x3_j : Int} (t_x3 : mI x3 = x3_j) {v_allowed : Int64} {v_allowed_j : Int} (t_v_allowed : mJ v_allowed = v_allowed_j) {v_debt : Int64} {v_debt_j : Int} (t_v_debt : mJ v_debt = v_debt_j) {v_farms : Int64} {v_farms_j : Int} (t_v_farms : mJ v_farms = v_farms_j) {v_isBlanchedNow : Int32} {v_isBlanchedNow_j : Int} (t_v_isBlanchedNow : mI v_isBlanchedNow = v_isBlanchedNow_j) {v_now : Int32} {v_now_j : Int} (t_v_now : mI v_now = v_now_j) {v_paid : Int64} {v_paid_j : Int} (t_v_paid : mJ v_paid = v_paid_j) {v_paidTold : Int64} {v_paidTold_j : Int} (t_v_paidTold : mJ v_paidTold = v_paidTold_j) {v_pardoned : Int64} {v_pardoned_j : Int} (t_v_pardoned : mJ v_pardoned = v_pardoned_j) {v_piled : Int32} {v_piled_j : Int} (t_v_piled : mI v_piled = v_piled_j) {v_shireNow : Int32} {v_shireNow_j : Int} (t_v_shireNow : mI v_shireNow = v_shireNow_j) {v_off : (Nat → Int64)} {v_off_j : (Nat → Int)} (t_v_off : mL v_off = v_off_j) {v_pile : (Nat → Int64)} {v_pile_j : (Nat → Int)} (t_v_pile : mL v_pile = v_pile_j) : tl (mP mJ (mP mJ (mP mJ (mP mJ (mP mI (mP mI (mP mJ (mP mJ (mP mJ (mP mI (mP mI (mP mL mL)))))))))))) (iM_rolls_b134 N_j a1_j a2_j v_acts_j v_knownAt_j v_movedAct_j v_movedTerm_j v_without_j v_actKind_j v_actNumber_j v_actShire_j v_actTerm_j v_codes_j v_cutWorth_j v_cuts_j v_first_j v_isBlanched_j v_many_j v_mates_j v_pence_j v_second_j v_sort_j v_sumEnd_j v_sumFrom_j v_testEnd_j v_voidAt_j self_j x3_j v_allowed_j v_debt_j v_farms_j v_isBlanchedNow_j v_now_j v_paid_j v_paidTold_j v_pardoned_j v_piled_j v_shireNow_j v_off_j v_pile_j) (pM_rolls_b134 N a1 a2 v_acts v_knownAt v_movedAct v_movedTerm v_without v_actKind v_actNumber v_actShire v_actTerm v_codes v_cutWorth v_cuts v_first v_isBlanched v_many v_mates v_pence v_second v_sort v_sumEnd v_sumFrom v_testEnd v_voidAt self x3 v_allowed v_debt v_farms v_isBlanchedNow v_now v_paid v_paidTold v_pardoned v_piled v_shireNow v_off v_pile) := by
  subst t_N
  subst t_a1
  subst t_a2
  subst t_v_acts
  subst t_v_knownAt
  subst t_v_movedAct
  subst t_v_movedTerm
  subst t_v_without
  subst t_v_actKind
  subst t_v_actNumber
  subst t_v_actShire
  subst t_v_actTerm
  subst t_v_codes
  subst t_v_cutWorth
  subst t_v_cuts
  subst t_v_first
  subst t_v_isBlanched
  subst t_v_many
  subst t_v_mates
  subst t_v_pence
  subst t_v_second
  subst t_v_sort
  subst t_v_sumEnd
  subst t_v_sumFrom
  subst t_v_testEnd
  subst t_v_voidAt
  subst t_x3
  subst t_v_allowed
  subst t_v_debt
  subst t_v_farms
  subst t_v_isBlanchedNow
  subst t_v_now
  subst t_v_paid
  subst t_v_paidTold
  subst t_v_pardoned
  subst t_v_piled
  subst t_v_shireNow
  subst t_v_off
  subst t_v_pile
  unfold iM_rolls_b134 pM_rolls_b134
  refine tl_g (fun h1 => ?_)
  exact (tl_e12 (ja_add (Eq.refl (mI x3)) jlitI_1 h1) (Eq.refl (mJ v_allowed)) (Eq.refl (mJ v_debt)) (Eq.refl (mJ v_farms)) (Eq.refl (mI v_isBlanchedNow)) (Eq.refl (mI v_now)) (Eq.refl (mJ v_paid)) (Eq.refl (mJ v_paid)) (Eq.refl (mJ v_pardoned)) (Eq.refl (mI v_piled)) (Eq.refl (mL v_off)) (Eq.refl (mL v_pile)) (t_self _ _ _ _ _ _ _ _ _ _ _ _))
theorem t_pM_rolls_b118 {N N_j : Nat} (t_N : N = N_j) {a1 : Int32} {a1_j : Int} (t_a1 : mI a1 = a1_j) {a2 : Int32} {a2_j : Int} (t_a2 : mI a2 = a2_j) {v_acts : Int32} {v_acts_j : Int} (t_v_acts : mI v_acts = v_acts_j) {v_knownAt : Int32} {v_knownAt_j : Int} (t_v_knownAt : mI v_knownAt = v_knownAt_j) {v_movedAct : Int32} {v_movedAct_j : Int} (t_v_movedAct : mI v_movedAct = v_movedAct_j) {v_movedTerm : Int32} {v_movedTerm_j : Int} (t_v_movedTerm : mI v_movedTerm = v_movedTerm_j) {v_without : Int32} {v_without_j : Int} (t_v_without : mI v_without = v_without_j) {v_actKind : (Nat → Int32)} {v_actKind_j : (Nat → Int)} (t_v_actKind : mA v_actKind = v_actKind_j) {v_actNumber : (Nat → Int32)} {v_actNumber_j : (Nat → Int)} (t_v_actNumber : mA v_actNumber = v_actNumber_j) {v_actShire : (Nat → Int32)} {v_actShire_j : (Nat → Int)} (t_v_actShire : mA v_actShire = v_actShire_j) {v_actTerm : (Nat → Int32)} {v_actTerm_j : (Nat → Int)} (t_v_actTerm : mA v_actTerm = v_actTerm_j) {v_codes : (Nat → Int32)} {v_codes_j : (Nat → Int)} (t_v_codes : mA v_codes = v_codes_j) {v_cutWorth : (Nat → Int32)} {v_cutWorth_j : (Nat → Int)} (t_v_cutWorth : mA v_cutWorth = v_cutWorth_j) {v_cuts : (Nat → Int32)} {v_cuts_j : (Nat → Int)} (t_v_cuts : mA v_cuts = v_cuts_j) {v_first : (Nat → Int32)} {v_first_j : (Nat → Int)} (t_v_first : mA v_first = v_first_j) {v_isBlanched : (Nat → Int32)} {v_isBlanched_j : (Nat → Int)} (t_v_isBlanched : mA v_isBlanched = v_isBlanched_j) {v_many : (Nat → Int32)} {v_many_j : (Nat → Int)} (t_v_many : mA v_many = v_many_j) {v_mates : (Nat → Int32)} {v_mates_j : (Nat → Int)} (t_v_mates : mA v_mates = v_mates_j) {v_pence : (Nat → Int32)} {v_pence_j : (Nat → Int)} (t_v_pence : mA v_pence = v_pence_j) {v_second : (Nat → Int32)} {v_second_j : (Nat → Int)} (t_v_second : mA v_second = v_second_j) {v_sort : (Nat → Int32)} {v_sort_j : (Nat → Int)} (t_v_sort : mA v_sort = v_sort_j) {v_sumEnd : (Nat → Int32)} {v_sumEnd_j : (Nat → Int)} (t_v_sumEnd : mA v_sumEnd = v_sumEnd_j) {v_sumFrom : (Nat → Int32)} {v_sumFrom_j : (Nat → Int)} (t_v_sumFrom : mA v_sumFrom = v_sumFrom_j) {v_testEnd : (Nat → Int32)} {v_testEnd_j : (Nat → Int)} (t_v_testEnd : mA v_testEnd = v_testEnd_j) {v_voidAt : (Nat → Int32)} {v_voidAt_j : (Nat → Int)} (t_v_voidAt : mA v_voidAt = v_voidAt_j) {self : Int32 → Int64 → Int64 → Int64 → Int32 → Int32 → Int64 → Int64 → Int64 → Int32 → (Nat → Int64) → (Nat → Int64) → Option R_pM_rolls} {self_j : Int → Int → Int → Int → Int → Int → Int → Int → Int → Int → (Nat → Int) → (Nat → Int) → Option R_iM_rolls} (t_self : ∀ (q0_ : Int32) (q1_ : Int64) (q2_ : Int64) (q3_ : Int64) (q4_ : Int32) (q5_ : Int32) (q6_ : Int64) (q7_ : Int64) (q8_ : Int64) (q9_ : Int32) (q10_ : (Nat → Int64)) (q11_ : (Nat → Int64)), tl (mP mJ (mP mJ (mP mJ (mP mJ (mP mI (mP mI (mP mJ (mP mJ (mP mJ (mP mI (mP mI (mP mL mL)))))))))))) (self_j (mI q0_) (mJ q1_) (mJ q2_) (mJ q3_) (mI q4_) (mI q5_) (mJ q6_) (mJ q7_) (mJ q8_) (mI q9_) (mL q10_) (mL q11_)) (self q0_ q1_ q2_ q3_ q4_ q5_ q6_ q7_ q8_ q9_ q10_ q11_)) {x3 : Int32} {x3_j : Int} (t_x3 : mI x3 = x3_j) {x4 : Int32} {x4_j : Int} (t_x4 : mI x4 = x4_j) {v_allowed : Int64} {v_allowed_j : Int} (t_v_allowed : mJ v_allowed = v_allowed_j) {v_debt : Int64} {v_debt_j : Int} (t_v_debt : mJ v_debt = v_debt_j) {v_farms : Int64} {v_farms_j : Int} (t_v_farms : mJ v_farms = v_farms_j) {v_isBlanchedNow : Int32} {v_isBlanchedNow_j : Int} (t_v_isBlanchedNow : mI v_isBlanchedNow = v_isBlanchedNow_j) {v_now : Int32} {v_now_j : Int} (t_v_now : mI v_now = v_now_j) {v_paid : Int64} {v_paid_j : Int} (t_v_paid : mJ v_paid = v_paid_j) {v_paidTold : Int64} {v_paidTold_j : Int} (t_v_paidTold : mJ v_paidTold = v_paidTold_j) {v_pardoned : Int64} {v_pardoned_j : Int} (t_v_pardoned : mJ v_pardoned = v_pardoned_j) {v_piled : Int32} {v_piled_j : Int} (t_v_piled : mI v_piled = v_piled_j) {v_shireNow : Int32} {v_shireNow_j : Int} (t_v_shireNow : mI v_shireNow = v_shireNow_j) {v_off : (Nat → Int64)} {v_off_j : (Nat → Int)} (t_v_off : mL v_off = v_off_j) {v_pile : (Nat → Int64)} {v_pile_j : (Nat → Int)} (t_v_pile : mL v_pile = v_pile_j) : tl (mP mJ (mP mJ (mP mJ (mP mJ (mP mI (mP mI (mP mJ (mP mJ (mP mJ (mP mI (mP mI (mP mL mL)))))))))))) (iM_rolls_b118 N_j a1_j a2_j v_acts_j v_knownAt_j v_movedAct_j v_movedTerm_j v_without_j v_actKind_j v_actNumber_j v_actShire_j v_actTerm_j v_codes_j v_cutWorth_j v_cuts_j v_first_j v_isBlanched_j v_many_j v_mates_j v_pence_j v_second_j v_sort_j v_sumEnd_j v_sumFrom_j v_testEnd_j v_voidAt_j self_j x3_j x4_j v_allowed_j v_debt_j v_farms_j v_isBlanchedNow_j v_now_j v_paid_j v_paidTold_j v_pardoned_j v_piled_j v_shireNow_j v_off_j v_pile_j) (pM_rolls_b118 N a1 a2 v_acts v_knownAt v_movedAct v_movedTerm v_without v_actKind v_actNumber v_actShire v_actTerm v_codes v_cutWorth v_cuts v_first v_isBlanched v_many v_mates v_pence v_second v_sort v_sumEnd v_sumFrom v_testEnd v_voidAt self x3 x4 v_allowed v_debt v_farms v_isBlanchedNow v_now v_paid v_paidTold v_pardoned v_piled v_shireNow v_off v_pile) := by
  subst t_N
  subst t_a1
  subst t_a2
  subst t_v_acts
  subst t_v_knownAt
  subst t_v_movedAct
  subst t_v_movedTerm
  subst t_v_without
  subst t_v_actKind
  subst t_v_actNumber
  subst t_v_actShire
  subst t_v_actTerm
  subst t_v_codes
  subst t_v_cutWorth
  subst t_v_cuts
  subst t_v_first
  subst t_v_isBlanched
  subst t_v_many
  subst t_v_mates
  subst t_v_pence
  subst t_v_second
  subst t_v_sort
  subst t_v_sumEnd
  subst t_v_sumFrom
  subst t_v_testEnd
  subst t_v_voidAt
  subst t_x3
  subst t_x4
  subst t_v_allowed
  subst t_v_debt
  subst t_v_farms
  subst t_v_isBlanchedNow
  subst t_v_now
  subst t_v_paid
  subst t_v_paidTold
  subst t_v_pardoned
  subst t_v_piled
  subst t_v_shireNow
  subst t_v_off
  subst t_v_pile
  unfold iM_rolls_b118 pM_rolls_b118
  refine tl_bd2 (t_pM_takesPayments (Eq.refl N) (Eq.refl (mI v_acts)) (Eq.refl (mJ v_debt)) (Eq.refl (mI v_isBlanchedNow)) (Eq.refl (mI v_knownAt)) (Eq.refl (mI v_movedAct)) (Eq.refl (mI v_movedTerm)) (Eq.refl (mI v_now)) (Eq.refl (mJ v_paid)) (Eq.refl (mI v_shireNow)) (Eq.refl (mI v_without)) (Eq.refl (mA v_actKind)) (Eq.refl (mA v_actNumber)) (Eq.refl (mA v_actShire)) (Eq.refl (mA v_actTerm)) (Eq.refl (mA v_cutWorth)) (Eq.refl (mA v_cuts)) (Eq.refl (mA v_mates)) (Eq.refl (mA v_pence)) (Eq.refl (mA v_voidAt))) (fun v_debt_c4 v_paid_c4 => ?_)
  refine tl_ite (jc_le (Eq.refl (mI x4)) jlitI_0) ?_ ?_
  · exact (t_pM_rolls_b134 (Eq.refl N) (Eq.refl (mI a1)) (Eq.refl (mI a2)) (Eq.refl (mI v_acts)) (Eq.refl (mI v_knownAt)) (Eq.refl (mI v_movedAct)) (Eq.refl (mI v_movedTerm)) (Eq.refl (mI v_without)) (Eq.refl (mA v_actKind)) (Eq.refl (mA v_actNumber)) (Eq.refl (mA v_actShire)) (Eq.refl (mA v_actTerm)) (Eq.refl (mA v_codes)) (Eq.refl (mA v_cutWorth)) (Eq.refl (mA v_cuts)) (Eq.refl (mA v_first)) (Eq.refl (mA v_isBlanched)) (Eq.refl (mA v_many)) (Eq.refl (mA v_mates)) (Eq.refl (mA v_pence)) (Eq.refl (mA v_second)) (Eq.refl (mA v_sort)) (Eq.refl (mA v_sumEnd)) (Eq.refl (mA v_sumFrom)) (Eq.refl (mA v_testEnd)) (Eq.refl (mA v_voidAt)) t_self (Eq.refl (mI x3)) (Eq.refl (mJ v_allowed)) (Eq.refl (mJ v_debt_c4)) (Eq.refl (mJ v_farms)) (Eq.refl (mI v_isBlanchedNow)) (Eq.refl (mI v_now)) (Eq.refl (mJ v_paid_c4)) (Eq.refl (mJ v_paidTold)) (Eq.refl (mJ v_pardoned)) (Eq.refl (mI v_piled)) (Eq.refl (mI v_shireNow)) (Eq.refl (mL v_off)) (Eq.refl (mL v_pile)))
  · refine tl_bd8 (t_pM_does (Eq.refl N) (Eq.refl (mI x4)) jlitI_3 (Eq.refl (mJ v_allowed)) (Eq.refl (mJ v_debt_c4)) (Eq.refl (mJ v_farms)) (Eq.refl (mI v_isBlanchedNow)) (Eq.refl (mI v_now)) (Eq.refl (mJ v_paid_c4)) (Eq.refl (mJ v_pardoned)) (Eq.refl (mI v_piled)) (Eq.refl (mI v_shireNow)) (Eq.refl (mA v_codes)) (Eq.refl (mA v_first)) (Eq.refl (mA v_isBlanched)) (Eq.refl (mA v_many)) (Eq.refl (mL v_off)) (Eq.refl (mL v_pile)) (Eq.refl (mA v_second)) (Eq.refl (mA v_sort)) (Eq.refl (mA v_sumEnd)) (Eq.refl (mA v_sumFrom)) (Eq.refl (mA v_testEnd))) (fun v_allowed_c5 v_debt_c5 v_farms_c5 v_isBlanchedNow_c5 v_pardoned_c5 v_piled_c5 v_off_c5 v_pile_c5 => ?_)
    exact (t_pM_rolls_b134 (Eq.refl N) (Eq.refl (mI a1)) (Eq.refl (mI a2)) (Eq.refl (mI v_acts)) (Eq.refl (mI v_knownAt)) (Eq.refl (mI v_movedAct)) (Eq.refl (mI v_movedTerm)) (Eq.refl (mI v_without)) (Eq.refl (mA v_actKind)) (Eq.refl (mA v_actNumber)) (Eq.refl (mA v_actShire)) (Eq.refl (mA v_actTerm)) (Eq.refl (mA v_codes)) (Eq.refl (mA v_cutWorth)) (Eq.refl (mA v_cuts)) (Eq.refl (mA v_first)) (Eq.refl (mA v_isBlanched)) (Eq.refl (mA v_many)) (Eq.refl (mA v_mates)) (Eq.refl (mA v_pence)) (Eq.refl (mA v_second)) (Eq.refl (mA v_sort)) (Eq.refl (mA v_sumEnd)) (Eq.refl (mA v_sumFrom)) (Eq.refl (mA v_testEnd)) (Eq.refl (mA v_voidAt)) t_self (Eq.refl (mI x3)) (Eq.refl (mJ v_allowed_c5)) (Eq.refl (mJ v_debt_c5)) (Eq.refl (mJ v_farms_c5)) (Eq.refl (mI v_isBlanchedNow_c5)) (Eq.refl (mI v_now)) (Eq.refl (mJ v_paid_c4)) (Eq.refl (mJ v_paidTold)) (Eq.refl (mJ v_pardoned_c5)) (Eq.refl (mI v_piled_c5)) (Eq.refl (mI v_shireNow)) (Eq.refl (mL v_off_c5)) (Eq.refl (mL v_pile_c5)))
theorem t_pM_rolls_b98_F {N N_j : Nat} (t_N : N = N_j) {a1 : Int32} {a1_j : Int} (t_a1 : mI a1 = a1_j) {a2 : Int32} {a2_j : Int} (t_a2 : mI a2 = a2_j) {v_acts : Int32} {v_acts_j : Int} (t_v_acts : mI v_acts = v_acts_j) {v_knownAt : Int32} {v_knownAt_j : Int} (t_v_knownAt : mI v_knownAt = v_knownAt_j) {v_movedAct : Int32} {v_movedAct_j : Int} (t_v_movedAct : mI v_movedAct = v_movedAct_j) {v_movedTerm : Int32} {v_movedTerm_j : Int} (t_v_movedTerm : mI v_movedTerm = v_movedTerm_j) {v_without : Int32} {v_without_j : Int} (t_v_without : mI v_without = v_without_j) {v_actKind : (Nat → Int32)} {v_actKind_j : (Nat → Int)} (t_v_actKind : mA v_actKind = v_actKind_j) {v_actNumber : (Nat → Int32)} {v_actNumber_j : (Nat → Int)} (t_v_actNumber : mA v_actNumber = v_actNumber_j) {v_actShire : (Nat → Int32)} {v_actShire_j : (Nat → Int)} (t_v_actShire : mA v_actShire = v_actShire_j) {v_actTerm : (Nat → Int32)} {v_actTerm_j : (Nat → Int)} (t_v_actTerm : mA v_actTerm = v_actTerm_j) {v_codes : (Nat → Int32)} {v_codes_j : (Nat → Int)} (t_v_codes : mA v_codes = v_codes_j) {v_cutWorth : (Nat → Int32)} {v_cutWorth_j : (Nat → Int)} (t_v_cutWorth : mA v_cutWorth = v_cutWorth_j) {v_cuts : (Nat → Int32)} {v_cuts_j : (Nat → Int)} (t_v_cuts : mA v_cuts = v_cuts_j) {v_first : (Nat → Int32)} {v_first_j : (Nat → Int)} (t_v_first : mA v_first = v_first_j) {v_isBlanched : (Nat → Int32)} {v_isBlanched_j : (Nat → Int)} (t_v_isBlanched : mA v_isBlanched = v_isBlanched_j) {v_many : (Nat → Int32)} {v_many_j : (Nat → Int)} (t_v_many : mA v_many = v_many_j) {v_mates : (Nat → Int32)} {v_mates_j : (Nat → Int)} (t_v_mates : mA v_mates = v_mates_j) {v_pence : (Nat → Int32)} {v_pence_j : (Nat → Int)} (t_v_pence : mA v_pence = v_pence_j) {v_second : (Nat → Int32)} {v_second_j : (Nat → Int)} (t_v_second : mA v_second = v_second_j) {v_sort : (Nat → Int32)} {v_sort_j : (Nat → Int)} (t_v_sort : mA v_sort = v_sort_j) {v_sumEnd : (Nat → Int32)} {v_sumEnd_j : (Nat → Int)} (t_v_sumEnd : mA v_sumEnd = v_sumEnd_j) {v_sumFrom : (Nat → Int32)} {v_sumFrom_j : (Nat → Int)} (t_v_sumFrom : mA v_sumFrom = v_sumFrom_j) {v_testEnd : (Nat → Int32)} {v_testEnd_j : (Nat → Int)} (t_v_testEnd : mA v_testEnd = v_testEnd_j) {v_voidAt : (Nat → Int32)} {v_voidAt_j : (Nat → Int)} (t_v_voidAt : mA v_voidAt = v_voidAt_j) {x3 : Int32} {x3_j : Int} (t_x3 : mI x3 = x3_j) {x4 : Int32} {x4_j : Int} (t_x4 : mI x4 = x4_j) {v_now : Int32} {v_now_j : Int} (t_v_now : mI v_now = v_now_j) {v_paid : Int64} {v_paid_j : Int} (t_v_paid : mJ v_paid = v_paid_j) {v_paidTold : Int64} {v_paidTold_j : Int} (t_v_paidTold : mJ v_paidTold = v_paidTold_j) {v_shireNow : Int32} {v_shireNow_j : Int} (t_v_shireNow : mI v_shireNow = v_shireNow_j) {k118 : Int64 → Int64 → Int64 → Int32 → Int64 → Int32 → (Nat → Int64) → (Nat → Int64) → Option R_pM_rolls} {k118_j : Int → Int → Int → Int → Int → Int → (Nat → Int) → (Nat → Int) → Option R_iM_rolls} (t_k118 : ∀ (q0_ : Int64) (q1_ : Int64) (q2_ : Int64) (q3_ : Int32) (q4_ : Int64) (q5_ : Int32) (q6_ : (Nat → Int64)) (q7_ : (Nat → Int64)), tl (mP mJ (mP mJ (mP mJ (mP mJ (mP mI (mP mI (mP mJ (mP mJ (mP mJ (mP mI (mP mI (mP mL mL)))))))))))) (k118_j (mJ q0_) (mJ q1_) (mJ q2_) (mI q3_) (mJ q4_) (mI q5_) (mL q6_) (mL q7_)) (k118 q0_ q1_ q2_ q3_ q4_ q5_ q6_ q7_)) {self : Int32 → Int64 → Int64 → Int64 → Int32 → Int64 → Int32 → (Nat → Int64) → (Nat → Int64) → Option R_pM_rolls} {self_j : Int → Int → Int → Int → Int → Int → Int → (Nat → Int) → (Nat → Int) → Option R_iM_rolls} (t_self : ∀ (q0_ : Int32) (q1_ : Int64) (q2_ : Int64) (q3_ : Int64) (q4_ : Int32) (q5_ : Int64) (q6_ : Int32) (q7_ : (Nat → Int64)) (q8_ : (Nat → Int64)), tl (mP mJ (mP mJ (mP mJ (mP mJ (mP mI (mP mI (mP mJ (mP mJ (mP mJ (mP mI (mP mI (mP mL mL)))))))))))) (self_j (mI q0_) (mJ q1_) (mJ q2_) (mJ q3_) (mI q4_) (mJ q5_) (mI q6_) (mL q7_) (mL q8_)) (self q0_ q1_ q2_ q3_ q4_ q5_ q6_ q7_ q8_)) {x5 : Int32} {x5_j : Int} (t_x5 : mI x5 = x5_j) {v_allowed : Int64} {v_allowed_j : Int} (t_v_allowed : mJ v_allowed = v_allowed_j) {v_debt : Int64} {v_debt_j : Int} (t_v_debt : mJ v_debt = v_debt_j) {v_farms : Int64} {v_farms_j : Int} (t_v_farms : mJ v_farms = v_farms_j) {v_isBlanchedNow : Int32} {v_isBlanchedNow_j : Int} (t_v_isBlanchedNow : mI v_isBlanchedNow = v_isBlanchedNow_j) {v_pardoned : Int64} {v_pardoned_j : Int} (t_v_pardoned : mJ v_pardoned = v_pardoned_j) {v_piled : Int32} {v_piled_j : Int} (t_v_piled : mI v_piled = v_piled_j) {v_off : (Nat → Int64)} {v_off_j : (Nat → Int)} (t_v_off : mL v_off = v_off_j) {v_pile : (Nat → Int64)} {v_pile_j : (Nat → Int)} (t_v_pile : mL v_pile = v_pile_j) : tl (mP mJ (mP mJ (mP mJ (mP mJ (mP mI (mP mI (mP mJ (mP mJ (mP mJ (mP mI (mP mI (mP mL mL)))))))))))) (iM_rolls_b98_F N_j a1_j a2_j v_acts_j v_knownAt_j v_movedAct_j v_movedTerm_j v_without_j v_actKind_j v_actNumber_j v_actShire_j v_actTerm_j v_codes_j v_cutWorth_j v_cuts_j v_first_j v_isBlanched_j v_many_j v_mates_j v_pence_j v_second_j v_sort_j v_sumEnd_j v_sumFrom_j v_testEnd_j v_voidAt_j x3_j x4_j v_now_j v_paid_j v_paidTold_j v_shireNow_j k118_j self_j x5_j v_allowed_j v_debt_j v_farms_j v_isBlanchedNow_j v_pardoned_j v_piled_j v_off_j v_pile_j) (pM_rolls_b98_F N a1 a2 v_acts v_knownAt v_movedAct v_movedTerm v_without v_actKind v_actNumber v_actShire v_actTerm v_codes v_cutWorth v_cuts v_first v_isBlanched v_many v_mates v_pence v_second v_sort v_sumEnd v_sumFrom v_testEnd v_voidAt x3 x4 v_now v_paid v_paidTold v_shireNow k118 self x5 v_allowed v_debt v_farms v_isBlanchedNow v_pardoned v_piled v_off v_pile) := by
  subst t_N
  subst t_a1
  subst t_a2
  subst t_v_acts
  subst t_v_knownAt
  subst t_v_movedAct
  subst t_v_movedTerm
  subst t_v_without
  subst t_v_actKind
  subst t_v_actNumber
  subst t_v_actShire
  subst t_v_actTerm
  subst t_v_codes
  subst t_v_cutWorth
  subst t_v_cuts
  subst t_v_first
  subst t_v_isBlanched
  subst t_v_many
  subst t_v_mates
  subst t_v_pence
  subst t_v_second
  subst t_v_sort
  subst t_v_sumEnd
  subst t_v_sumFrom
  subst t_v_testEnd
  subst t_v_voidAt
  subst t_x3
  subst t_x4
  subst t_v_now
  subst t_v_paid
  subst t_v_paidTold
  subst t_v_shireNow
  subst t_x5
  subst t_v_allowed
  subst t_v_debt
  subst t_v_farms
  subst t_v_isBlanchedNow
  subst t_v_pardoned
  subst t_v_piled
  subst t_v_off
  subst t_v_pile
  unfold iM_rolls_b98_F pM_rolls_b98_F
  refine tl_ite (jc_lt jlitI_2 (Eq.refl (mI x5))) ?_ ?_
  · exact (tl_e8 (Eq.refl (mJ v_allowed)) (Eq.refl (mJ v_debt)) (Eq.refl (mJ v_farms)) (Eq.refl (mI v_isBlanchedNow)) (Eq.refl (mJ v_pardoned)) (Eq.refl (mI v_piled)) (Eq.refl (mL v_off)) (Eq.refl (mL v_pile)) (t_k118 _ _ _ _ _ _ _ _))
  · refine tl_bd8 (t_pM_does (Eq.refl N) (Eq.refl (mI x4)) (Eq.refl (mI x5)) (Eq.refl (mJ v_allowed)) (Eq.refl (mJ v_debt)) (Eq.refl (mJ v_farms)) (Eq.refl (mI v_isBlanchedNow)) (Eq.refl (mI v_now)) (Eq.refl (mJ v_paid)) (Eq.refl (mJ v_pardoned)) (Eq.refl (mI v_piled)) (Eq.refl (mI v_shireNow)) (Eq.refl (mA v_codes)) (Eq.refl (mA v_first)) (Eq.refl (mA v_isBlanched)) (Eq.refl (mA v_many)) (Eq.refl (mL v_off)) (Eq.refl (mL v_pile)) (Eq.refl (mA v_second)) (Eq.refl (mA v_sort)) (Eq.refl (mA v_sumEnd)) (Eq.refl (mA v_sumFrom)) (Eq.refl (mA v_testEnd))) (fun v_allowed_c6 v_debt_c6 v_farms_c6 v_isBlanchedNow_c6 v_pardoned_c6 v_piled_c6 v_off_c6 v_pile_c6 => ?_)
    refine tl_g (fun h1 => ?_)
    exact (tl_e9 (ja_add (Eq.refl (mI x5)) jlitI_1 h1) (Eq.refl (mJ v_allowed_c6)) (Eq.refl (mJ v_debt_c6)) (Eq.refl (mJ v_farms_c6)) (Eq.refl (mI v_isBlanchedNow_c6)) (Eq.refl (mJ v_pardoned_c6)) (Eq.refl (mI v_piled_c6)) (Eq.refl (mL v_off_c6)) (Eq.refl (mL v_pile_c6)) (t_self _ _ _ _ _ _ _ _ _))
theorem t_pM_rolls_b98 {N N_j : Nat} (t_N : N = N_j) {a1 : Int32} {a1_j : Int} (t_a1 : mI a1 = a1_j) {a2 : Int32} {a2_j : Int} (t_a2 : mI a2 = a2_j) {v_acts : Int32} {v_acts_j : Int} (t_v_acts : mI v_acts = v_acts_j) {v_knownAt : Int32} {v_knownAt_j : Int} (t_v_knownAt : mI v_knownAt = v_knownAt_j) {v_movedAct : Int32} {v_movedAct_j : Int} (t_v_movedAct : mI v_movedAct = v_movedAct_j) {v_movedTerm : Int32} {v_movedTerm_j : Int} (t_v_movedTerm : mI v_movedTerm = v_movedTerm_j) {v_without : Int32} {v_without_j : Int} (t_v_without : mI v_without = v_without_j) {v_actKind : (Nat → Int32)} {v_actKind_j : (Nat → Int)} (t_v_actKind : mA v_actKind = v_actKind_j) {v_actNumber : (Nat → Int32)} {v_actNumber_j : (Nat → Int)} (t_v_actNumber : mA v_actNumber = v_actNumber_j) {v_actShire : (Nat → Int32)} {v_actShire_j : (Nat → Int)} (t_v_actShire : mA v_actShire = v_actShire_j) {v_actTerm : (Nat → Int32)} {v_actTerm_j : (Nat → Int)} (t_v_actTerm : mA v_actTerm = v_actTerm_j) {v_codes : (Nat → Int32)} {v_codes_j : (Nat → Int)} (t_v_codes : mA v_codes = v_codes_j) {v_cutWorth : (Nat → Int32)} {v_cutWorth_j : (Nat → Int)} (t_v_cutWorth : mA v_cutWorth = v_cutWorth_j) {v_cuts : (Nat → Int32)} {v_cuts_j : (Nat → Int)} (t_v_cuts : mA v_cuts = v_cuts_j) {v_first : (Nat → Int32)} {v_first_j : (Nat → Int)} (t_v_first : mA v_first = v_first_j) {v_isBlanched : (Nat → Int32)} {v_isBlanched_j : (Nat → Int)} (t_v_isBlanched : mA v_isBlanched = v_isBlanched_j) {v_many : (Nat → Int32)} {v_many_j : (Nat → Int)} (t_v_many : mA v_many = v_many_j) {v_mates : (Nat → Int32)} {v_mates_j : (Nat → Int)} (t_v_mates : mA v_mates = v_mates_j) {v_pence : (Nat → Int32)} {v_pence_j : (Nat → Int)} (t_v_pence : mA v_pence = v_pence_j) {v_second : (Nat → Int32)} {v_second_j : (Nat → Int)} (t_v_second : mA v_second = v_second_j) {v_sort : (Nat → Int32)} {v_sort_j : (Nat → Int)} (t_v_sort : mA v_sort = v_sort_j) {v_sumEnd : (Nat → Int32)} {v_sumEnd_j : (Nat → Int)} (t_v_sumEnd : mA v_sumEnd = v_sumEnd_j) {v_sumFrom : (Nat → Int32)} {v_sumFrom_j : (Nat → Int)} (t_v_sumFrom : mA v_sumFrom = v_sumFrom_j) {v_testEnd : (Nat → Int32)} {v_testEnd_j : (Nat → Int)} (t_v_testEnd : mA v_testEnd = v_testEnd_j) {v_voidAt : (Nat → Int32)} {v_voidAt_j : (Nat → Int)} (t_v_voidAt : mA v_voidAt = v_voidAt_j) {x3 : Int32} {x3_j : Int} (t_x3 : mI x3 = x3_j) {x4 : Int32} {x4_j : Int} (t_x4 : mI x4 = x4_j) {v_now : Int32} {v_now_j : Int} (t_v_now : mI v_now = v_now_j) {v_paid : Int64} {v_paid_j : Int} (t_v_paid : mJ v_paid = v_paid_j) {v_paidTold : Int64} {v_paidTold_j : Int} (t_v_paidTold : mJ v_paidTold = v_paidTold_j) {v_shireNow : Int32} {v_shireNow_j : Int} (t_v_shireNow : mI v_shireNow = v_shireNow_j) {k118 : Int64 → Int64 → Int64 → Int32 → Int64 → Int32 → (Nat → Int64) → (Nat → Int64) → Option R_pM_rolls} {k118_j : Int → Int → Int → Int → Int → Int → (Nat → Int) → (Nat → Int) → Option R_iM_rolls} (t_k118 : ∀ (q0_ : Int64) (q1_ : Int64) (q2_ : Int64) (q3_ : Int32) (q4_ : Int64) (q5_ : Int32) (q6_ : (Nat → Int64)) (q7_ : (Nat → Int64)), tl (mP mJ (mP mJ (mP mJ (mP mJ (mP mI (mP mI (mP mJ (mP mJ (mP mJ (mP mI (mP mI (mP mL mL)))))))))))) (k118_j (mJ q0_) (mJ q1_) (mJ q2_) (mI q3_) (mJ q4_) (mI q5_) (mL q6_) (mL q7_)) (k118 q0_ q1_ q2_ q3_ q4_ q5_ q6_ q7_)) {n n_j : Nat} (t_n : n = n_j) {w0_ : Int32} {w0__j : Int} (t_w0_ : mI w0_ = w0__j) {w1_ : Int64} {w1__j : Int} (t_w1_ : mJ w1_ = w1__j) {w2_ : Int64} {w2__j : Int} (t_w2_ : mJ w2_ = w2__j) {w3_ : Int64} {w3__j : Int} (t_w3_ : mJ w3_ = w3__j) {w4_ : Int32} {w4__j : Int} (t_w4_ : mI w4_ = w4__j) {w5_ : Int64} {w5__j : Int} (t_w5_ : mJ w5_ = w5__j) {w6_ : Int32} {w6__j : Int} (t_w6_ : mI w6_ = w6__j) {w7_ : (Nat → Int64)} {w7__j : (Nat → Int)} (t_w7_ : mL w7_ = w7__j) {w8_ : (Nat → Int64)} {w8__j : (Nat → Int)} (t_w8_ : mL w8_ = w8__j) : tl (mP mJ (mP mJ (mP mJ (mP mJ (mP mI (mP mI (mP mJ (mP mJ (mP mJ (mP mI (mP mI (mP mL mL)))))))))))) (iM_rolls_b98 N_j a1_j a2_j v_acts_j v_knownAt_j v_movedAct_j v_movedTerm_j v_without_j v_actKind_j v_actNumber_j v_actShire_j v_actTerm_j v_codes_j v_cutWorth_j v_cuts_j v_first_j v_isBlanched_j v_many_j v_mates_j v_pence_j v_second_j v_sort_j v_sumEnd_j v_sumFrom_j v_testEnd_j v_voidAt_j x3_j x4_j v_now_j v_paid_j v_paidTold_j v_shireNow_j k118_j n_j w0__j w1__j w2__j w3__j w4__j w5__j w6__j w7__j w8__j) (pM_rolls_b98 N a1 a2 v_acts v_knownAt v_movedAct v_movedTerm v_without v_actKind v_actNumber v_actShire v_actTerm v_codes v_cutWorth v_cuts v_first v_isBlanched v_many v_mates v_pence v_second v_sort v_sumEnd v_sumFrom v_testEnd v_voidAt x3 x4 v_now v_paid v_paidTold v_shireNow k118 n w0_ w1_ w2_ w3_ w4_ w5_ w6_ w7_ w8_) := by
  subst t_N
  subst t_a1
  subst t_a2
  subst t_v_acts
  subst t_v_knownAt
  subst t_v_movedAct
  subst t_v_movedTerm
  subst t_v_without
  subst t_v_actKind
  subst t_v_actNumber
  subst t_v_actShire
  subst t_v_actTerm
  subst t_v_codes
  subst t_v_cutWorth
  subst t_v_cuts
  subst t_v_first
  subst t_v_isBlanched
  subst t_v_many
  subst t_v_mates
  subst t_v_pence
  subst t_v_second
  subst t_v_sort
  subst t_v_sumEnd
  subst t_v_sumFrom
  subst t_v_testEnd
  subst t_v_voidAt
  subst t_x3
  subst t_x4
  subst t_v_now
  subst t_v_paid
  subst t_v_paidTold
  subst t_v_shireNow
  subst t_n
  subst t_w0_
  subst t_w1_
  subst t_w2_
  subst t_w3_
  subst t_w4_
  subst t_w5_
  subst t_w6_
  subst t_w7_
  subst t_w8_
  exact tl_zlp9 (fun s2 s hs w0_ w1_ w2_ w3_ w4_ w5_ w6_ w7_ w8_ => t_pM_rolls_b98_F (Eq.refl N) (Eq.refl (mI a1)) (Eq.refl (mI a2)) (Eq.refl (mI v_acts)) (Eq.refl (mI v_knownAt)) (Eq.refl (mI v_movedAct)) (Eq.refl (mI v_movedTerm)) (Eq.refl (mI v_without)) (Eq.refl (mA v_actKind)) (Eq.refl (mA v_actNumber)) (Eq.refl (mA v_actShire)) (Eq.refl (mA v_actTerm)) (Eq.refl (mA v_codes)) (Eq.refl (mA v_cutWorth)) (Eq.refl (mA v_cuts)) (Eq.refl (mA v_first)) (Eq.refl (mA v_isBlanched)) (Eq.refl (mA v_many)) (Eq.refl (mA v_mates)) (Eq.refl (mA v_pence)) (Eq.refl (mA v_second)) (Eq.refl (mA v_sort)) (Eq.refl (mA v_sumEnd)) (Eq.refl (mA v_sumFrom)) (Eq.refl (mA v_testEnd)) (Eq.refl (mA v_voidAt)) (Eq.refl (mI x3)) (Eq.refl (mI x4)) (Eq.refl (mI v_now)) (Eq.refl (mJ v_paid)) (Eq.refl (mJ v_paidTold)) (Eq.refl (mI v_shireNow)) t_k118 hs (Eq.refl (mI w0_)) (Eq.refl (mJ w1_)) (Eq.refl (mJ w2_)) (Eq.refl (mJ w3_)) (Eq.refl (mI w4_)) (Eq.refl (mJ w5_)) (Eq.refl (mI w6_)) (Eq.refl (mL w7_)) (Eq.refl (mL w8_))) n w0_ w1_ w2_ w3_ w4_ w5_ w6_ w7_ w8_
theorem t_pM_rolls_b33_F {N N_j : Nat} (t_N : N = N_j) {a1 : Int32} {a1_j : Int} (t_a1 : mI a1 = a1_j) {a2 : Int32} {a2_j : Int} (t_a2 : mI a2 = a2_j) {v_acts : Int32} {v_acts_j : Int} (t_v_acts : mI v_acts = v_acts_j) {v_knownAt : Int32} {v_knownAt_j : Int} (t_v_knownAt : mI v_knownAt = v_knownAt_j) {v_movedAct : Int32} {v_movedAct_j : Int} (t_v_movedAct : mI v_movedAct = v_movedAct_j) {v_movedTerm : Int32} {v_movedTerm_j : Int} (t_v_movedTerm : mI v_movedTerm = v_movedTerm_j) {v_without : Int32} {v_without_j : Int} (t_v_without : mI v_without = v_without_j) {v_actKind : (Nat → Int32)} {v_actKind_j : (Nat → Int)} (t_v_actKind : mA v_actKind = v_actKind_j) {v_actNumber : (Nat → Int32)} {v_actNumber_j : (Nat → Int)} (t_v_actNumber : mA v_actNumber = v_actNumber_j) {v_actShire : (Nat → Int32)} {v_actShire_j : (Nat → Int)} (t_v_actShire : mA v_actShire = v_actShire_j) {v_actTerm : (Nat → Int32)} {v_actTerm_j : (Nat → Int)} (t_v_actTerm : mA v_actTerm = v_actTerm_j) {v_codes : (Nat → Int32)} {v_codes_j : (Nat → Int)} (t_v_codes : mA v_codes = v_codes_j) {v_cutWorth : (Nat → Int32)} {v_cutWorth_j : (Nat → Int)} (t_v_cutWorth : mA v_cutWorth = v_cutWorth_j) {v_cuts : (Nat → Int32)} {v_cuts_j : (Nat → Int)} (t_v_cuts : mA v_cuts = v_cuts_j) {v_first : (Nat → Int32)} {v_first_j : (Nat → Int)} (t_v_first : mA v_first = v_first_j) {v_isBlanched : (Nat → Int32)} {v_isBlanched_j : (Nat → Int)} (t_v_isBlanched : mA v_isBlanched = v_isBlanched_j) {v_many : (Nat → Int32)} {v_many_j : (Nat → Int)} (t_v_many : mA v_many = v_many_j) {v_mates : (Nat → Int32)} {v_mates_j : (Nat → Int)} (t_v_mates : mA v_mates = v_mates_j) {v_pence : (Nat → Int32)} {v_pence_j : (Nat → Int)} (t_v_pence : mA v_pence = v_pence_j) {v_second : (Nat → Int32)} {v_second_j : (Nat → Int)} (t_v_second : mA v_second = v_second_j) {v_sort : (Nat → Int32)} {v_sort_j : (Nat → Int)} (t_v_sort : mA v_sort = v_sort_j) {v_sumEnd : (Nat → Int32)} {v_sumEnd_j : (Nat → Int)} (t_v_sumEnd : mA v_sumEnd = v_sumEnd_j) {v_sumFrom : (Nat → Int32)} {v_sumFrom_j : (Nat → Int)} (t_v_sumFrom : mA v_sumFrom = v_sumFrom_j) {v_testEnd : (Nat → Int32)} {v_testEnd_j : (Nat → Int)} (t_v_testEnd : mA v_testEnd = v_testEnd_j) {v_voidAt : (Nat → Int32)} {v_voidAt_j : (Nat → Int)} (t_v_voidAt : mA v_voidAt = v_voidAt_j) {v_shireNow : Int32} {v_shireNow_j : Int} (t_v_shireNow : mI v_shireNow = v_shireNow_j) {self : Int32 → Int64 → Int64 → Int64 → Int32 → Int32 → Int64 → Int64 → Int64 → Int32 → (Nat → Int64) → (Nat → Int64) → Option R_pM_rolls} {self_j : Int → Int → Int → Int → Int → Int → Int → Int → Int → Int → (Nat → Int) → (Nat → Int) → Option R_iM_rolls} (t_self : ∀ (q0_ : Int32) (q1_ : Int64) (q2_ : Int64) (q3_ : Int64) (q4_ : Int32) (q5_ : Int32) (q6_ : Int64) (q7_ : Int64) (q8_ : Int64) (q9_ : Int32) (q10_ : (Nat → Int64)) (q11_ : (Nat → Int64)), tl (mP mJ (mP mJ (mP mJ (mP mJ (mP mI (mP mI (mP mJ (mP mJ (mP mJ (mP mI (mP mI (mP mL mL)))))))))))) (self_j (mI q0_) (mJ q1_) (mJ q2_) (mJ q3_) (mI q4_) (mI q5_) (mJ q6_) (mJ q7_) (mJ q8_) (mI q9_) (mL q10_) (mL q11_)) (self q0_ q1_ q2_ q3_ q4_ q5_ q6_ q7_ q8_ q9_ q10_ q11_)) {x3 : Int32} {x3_j : Int} (t_x3 : mI x3 = x3_j) {v_allowed : Int64} {v_allowed_j : Int} (t_v_allowed : mJ v_allowed = v_allowed_j) {v_debt : Int64} {v_debt_j : Int} (t_v_debt : mJ v_debt = v_debt_j) {v_farms : Int64} {v_farms_j : Int} (t_v_farms : mJ v_farms = v_farms_j) {v_isBlanchedNow : Int32} {v_isBlanchedNow_j : Int} (t_v_isBlanchedNow : mI v_isBlanchedNow = v_isBlanchedNow_j) {v_now : Int32} {v_now_j : Int} (t_v_now : mI v_now = v_now_j) {v_paid : Int64} {v_paid_j : Int} (t_v_paid : mJ v_paid = v_paid_j) {v_paidTold : Int64} {v_paidTold_j : Int} (t_v_paidTold : mJ v_paidTold = v_paidTold_j) {v_pardoned : Int64} {v_pardoned_j : Int} (t_v_pardoned : mJ v_pardoned = v_pardoned_j) {v_piled : Int32} {v_piled_j : Int} (t_v_piled : mI v_piled = v_piled_j) {v_off : (Nat → Int64)} {v_off_j : (Nat → Int)} (t_v_off : mL v_off = v_off_j) {v_pile : (Nat → Int64)} {v_pile_j : (Nat → Int)} (t_v_pile : mL v_pile = v_pile_j) : tl (mP mJ (mP mJ (mP mJ (mP mJ (mP mI (mP mI (mP mJ (mP mJ (mP mJ (mP mI (mP mI (mP mL mL)))))))))))) (iM_rolls_b33_F N_j a1_j a2_j v_acts_j v_knownAt_j v_movedAct_j v_movedTerm_j v_without_j v_actKind_j v_actNumber_j v_actShire_j v_actTerm_j v_codes_j v_cutWorth_j v_cuts_j v_first_j v_isBlanched_j v_many_j v_mates_j v_pence_j v_second_j v_sort_j v_sumEnd_j v_sumFrom_j v_testEnd_j v_voidAt_j v_shireNow_j self_j x3_j v_allowed_j v_debt_j v_farms_j v_isBlanchedNow_j v_now_j v_paid_j v_paidTold_j v_pardoned_j v_piled_j v_off_j v_pile_j) (pM_rolls_b33_F N a1 a2 v_acts v_knownAt v_movedAct v_movedTerm v_without v_actKind v_actNumber v_actShire v_actTerm v_codes v_cutWorth v_cuts v_first v_isBlanched v_many v_mates v_pence v_second v_sort v_sumEnd v_sumFrom v_testEnd v_voidAt v_shireNow self x3 v_allowed v_debt v_farms v_isBlanchedNow v_now v_paid v_paidTold v_pardoned v_piled v_off v_pile) := by
  subst t_N
  subst t_a1
  subst t_a2
  subst t_v_acts
  subst t_v_knownAt
  subst t_v_movedAct
  subst t_v_movedTerm
  subst t_v_without
  subst t_v_actKind
  subst t_v_actNumber
  subst t_v_actShire
  subst t_v_actTerm
  subst t_v_codes
  subst t_v_cutWorth
  subst t_v_cuts
  subst t_v_first
  subst t_v_isBlanched
  subst t_v_many
  subst t_v_mates
  subst t_v_pence
  subst t_v_second
  subst t_v_sort
  subst t_v_sumEnd
  subst t_v_sumFrom
  subst t_v_testEnd
  subst t_v_voidAt
  subst t_v_shireNow
  subst t_x3
  subst t_v_allowed
  subst t_v_debt
  subst t_v_farms
  subst t_v_isBlanchedNow
  subst t_v_now
  subst t_v_paid
  subst t_v_paidTold
  subst t_v_pardoned
  subst t_v_piled
  subst t_v_off
  subst t_v_pile
  unfold iM_rolls_b33_F pM_rolls_b33_F
  refine tl_ite (jc_lt (Eq.refl (mI a2)) (Eq.refl (mI x3))) ?_ ?_
  · exact (tl_some (jp2 (Eq.refl (mJ v_debt)) (jp2 (Eq.refl (mJ v_allowed)) (jp2 (Eq.refl (mJ v_debt)) (jp2 (Eq.refl (mJ v_farms)) (jp2 (Eq.refl (mI v_isBlanchedNow)) (jp2 (Eq.refl (mI v_now)) (jp2 (Eq.refl (mJ v_paid)) (jp2 (Eq.refl (mJ v_paidTold)) (jp2 (Eq.refl (mJ v_pardoned)) (jp2 (Eq.refl (mI v_piled)) (jp2 (Eq.refl (mI v_shireNow)) (jp2 (Eq.refl (mL v_off)) (Eq.refl (mL v_pile)))))))))))))))
  · refine tl_gd (jg_ib (Eq.refl (mI x3))) (fun _ => ?_)
    refine tl_bd1 (t_pM_writOf (Eq.refl N) (Eq.refl (mI x3)) (Eq.refl (mI v_acts)) (Eq.refl (mI v_knownAt)) (Eq.refl (mI v_without)) (Eq.refl (mA v_actKind)) (Eq.refl (mA v_actTerm)) (Eq.refl (mA v_voidAt))) (fun rc3 => ?_)
    refine tl_ite (jc_le (Eq.refl (mI rc3)) jlitI_0) ?_ ?_
    · refine tl_g (fun h1 => ?_)
      exact (t_pM_rolls_b118 (Eq.refl N) (Eq.refl (mI a1)) (Eq.refl (mI a2)) (Eq.refl (mI v_acts)) (Eq.refl (mI v_knownAt)) (Eq.refl (mI v_movedAct)) (Eq.refl (mI v_movedTerm)) (Eq.refl (mI v_without)) (Eq.refl (mA v_actKind)) (Eq.refl (mA v_actNumber)) (Eq.refl (mA v_actShire)) (Eq.refl (mA v_actTerm)) (Eq.refl (mA v_codes)) (Eq.refl (mA v_cutWorth)) (Eq.refl (mA v_cuts)) (Eq.refl (mA v_first)) (Eq.refl (mA v_isBlanched)) (Eq.refl (mA v_many)) (Eq.refl (mA v_mates)) (Eq.refl (mA v_pence)) (Eq.refl (mA v_second)) (Eq.refl (mA v_sort)) (Eq.refl (mA v_sumEnd)) (Eq.refl (mA v_sumFrom)) (Eq.refl (mA v_testEnd)) (Eq.refl (mA v_voidAt)) t_self (Eq.refl (mI x3)) (Eq.refl (mI rc3)) jlitJ_0 (jL_add (Eq.refl (mJ v_debt)) (jrdL (Eq.refl (mL v_off)) (jx (Eq.refl (mI x3)))) h1) jlitJ_0 jlitI_0 (Eq.refl (mI x3)) jlitJ_0 (Eq.refl (mJ v_paidTold)) jlitJ_0 (Eq.refl (mI v_piled)) (Eq.refl (mI v_shireNow)) (Eq.refl (mL v_off)) (Eq.refl (mL v_pile)))
    · refine tl_g (fun h2 => ?_)
      exact (t_pM_rolls_b98 (Eq.refl N) (Eq.refl (mI a1)) (Eq.refl (mI a2)) (Eq.refl (mI v_acts)) (Eq.refl (mI v_knownAt)) (Eq.refl (mI v_movedAct)) (Eq.refl (mI v_movedTerm)) (Eq.refl (mI v_without)) (Eq.refl (mA v_actKind)) (Eq.refl (mA v_actNumber)) (Eq.refl (mA v_actShire)) (Eq.refl (mA v_actTerm)) (Eq.refl (mA v_codes)) (Eq.refl (mA v_cutWorth)) (Eq.refl (mA v_cuts)) (Eq.refl (mA v_first)) (Eq.refl (mA v_isBlanched)) (Eq.refl (mA v_many)) (Eq.refl (mA v_mates)) (Eq.refl (mA v_pence)) (Eq.refl (mA v_second)) (Eq.refl (mA v_sort)) (Eq.refl (mA v_sumEnd)) (Eq.refl (mA v_sumFrom)) (Eq.refl (mA v_testEnd)) (Eq.refl (mA v_voidAt)) (Eq.refl (mI x3)) (Eq.refl (mI rc3)) (Eq.refl (mI x3)) jlitJ_0 (Eq.refl (mJ v_paidTold)) (Eq.refl (mI v_shireNow)) (fun v_allowed_k2 v_debt_k3 v_farms_k4 v_isBlanchedNow_k5 v_pardoned_k6 v_piled_k7 e39_ e40_ => by exact (t_pM_rolls_b118 (Eq.refl N) (Eq.refl (mI a1)) (Eq.refl (mI a2)) (Eq.refl (mI v_acts)) (Eq.refl (mI v_knownAt)) (Eq.refl (mI v_movedAct)) (Eq.refl (mI v_movedTerm)) (Eq.refl (mI v_without)) (Eq.refl (mA v_actKind)) (Eq.refl (mA v_actNumber)) (Eq.refl (mA v_actShire)) (Eq.refl (mA v_actTerm)) (Eq.refl (mA v_codes)) (Eq.refl (mA v_cutWorth)) (Eq.refl (mA v_cuts)) (Eq.refl (mA v_first)) (Eq.refl (mA v_isBlanched)) (Eq.refl (mA v_many)) (Eq.refl (mA v_mates)) (Eq.refl (mA v_pence)) (Eq.refl (mA v_second)) (Eq.refl (mA v_sort)) (Eq.refl (mA v_sumEnd)) (Eq.refl (mA v_sumFrom)) (Eq.refl (mA v_testEnd)) (Eq.refl (mA v_voidAt)) t_self (Eq.refl (mI x3)) (Eq.refl (mI rc3)) (Eq.refl (mJ v_allowed_k2)) (Eq.refl (mJ v_debt_k3)) (Eq.refl (mJ v_farms_k4)) (Eq.refl (mI v_isBlanchedNow_k5)) (Eq.refl (mI x3)) jlitJ_0 (Eq.refl (mJ v_paidTold)) (Eq.refl (mJ v_pardoned_k6)) (Eq.refl (mI v_piled_k7)) (Eq.refl (mI v_shireNow)) (Eq.refl (mL e39_)) (Eq.refl (mL e40_)))) (Eq.refl N) jlitI_0 jlitJ_0 (jL_add (Eq.refl (mJ v_debt)) (jrdL (Eq.refl (mL v_off)) (jx (Eq.refl (mI x3)))) h2) jlitJ_0 jlitI_0 jlitJ_0 (Eq.refl (mI v_piled)) (Eq.refl (mL v_off)) (Eq.refl (mL v_pile)))
theorem t_pM_rolls_b33 {N N_j : Nat} (t_N : N = N_j) {a1 : Int32} {a1_j : Int} (t_a1 : mI a1 = a1_j) {a2 : Int32} {a2_j : Int} (t_a2 : mI a2 = a2_j) {v_acts : Int32} {v_acts_j : Int} (t_v_acts : mI v_acts = v_acts_j) {v_knownAt : Int32} {v_knownAt_j : Int} (t_v_knownAt : mI v_knownAt = v_knownAt_j) {v_movedAct : Int32} {v_movedAct_j : Int} (t_v_movedAct : mI v_movedAct = v_movedAct_j) {v_movedTerm : Int32} {v_movedTerm_j : Int} (t_v_movedTerm : mI v_movedTerm = v_movedTerm_j) {v_without : Int32} {v_without_j : Int} (t_v_without : mI v_without = v_without_j) {v_actKind : (Nat → Int32)} {v_actKind_j : (Nat → Int)} (t_v_actKind : mA v_actKind = v_actKind_j) {v_actNumber : (Nat → Int32)} {v_actNumber_j : (Nat → Int)} (t_v_actNumber : mA v_actNumber = v_actNumber_j) {v_actShire : (Nat → Int32)} {v_actShire_j : (Nat → Int)} (t_v_actShire : mA v_actShire = v_actShire_j) {v_actTerm : (Nat → Int32)} {v_actTerm_j : (Nat → Int)} (t_v_actTerm : mA v_actTerm = v_actTerm_j) {v_codes : (Nat → Int32)} {v_codes_j : (Nat → Int)} (t_v_codes : mA v_codes = v_codes_j) {v_cutWorth : (Nat → Int32)} {v_cutWorth_j : (Nat → Int)} (t_v_cutWorth : mA v_cutWorth = v_cutWorth_j) {v_cuts : (Nat → Int32)} {v_cuts_j : (Nat → Int)} (t_v_cuts : mA v_cuts = v_cuts_j) {v_first : (Nat → Int32)} {v_first_j : (Nat → Int)} (t_v_first : mA v_first = v_first_j) {v_isBlanched : (Nat → Int32)} {v_isBlanched_j : (Nat → Int)} (t_v_isBlanched : mA v_isBlanched = v_isBlanched_j) {v_many : (Nat → Int32)} {v_many_j : (Nat → Int)} (t_v_many : mA v_many = v_many_j) {v_mates : (Nat → Int32)} {v_mates_j : (Nat → Int)} (t_v_mates : mA v_mates = v_mates_j) {v_pence : (Nat → Int32)} {v_pence_j : (Nat → Int)} (t_v_pence : mA v_pence = v_pence_j) {v_second : (Nat → Int32)} {v_second_j : (Nat → Int)} (t_v_second : mA v_second = v_second_j) {v_sort : (Nat → Int32)} {v_sort_j : (Nat → Int)} (t_v_sort : mA v_sort = v_sort_j) {v_sumEnd : (Nat → Int32)} {v_sumEnd_j : (Nat → Int)} (t_v_sumEnd : mA v_sumEnd = v_sumEnd_j) {v_sumFrom : (Nat → Int32)} {v_sumFrom_j : (Nat → Int)} (t_v_sumFrom : mA v_sumFrom = v_sumFrom_j) {v_testEnd : (Nat → Int32)} {v_testEnd_j : (Nat → Int)} (t_v_testEnd : mA v_testEnd = v_testEnd_j) {v_voidAt : (Nat → Int32)} {v_voidAt_j : (Nat → Int)} (t_v_voidAt : mA v_voidAt = v_voidAt_j) {v_shireNow : Int32} {v_shireNow_j : Int} (t_v_shireNow : mI v_shireNow = v_shireNow_j) {n n_j : Nat} (t_n : n = n_j) {w0_ : Int32} {w0__j : Int} (t_w0_ : mI w0_ = w0__j) {w1_ : Int64} {w1__j : Int} (t_w1_ : mJ w1_ = w1__j) {w2_ : Int64} {w2__j : Int} (t_w2_ : mJ w2_ = w2__j) {w3_ : Int64} {w3__j : Int} (t_w3_ : mJ w3_ = w3__j) {w4_ : Int32} {w4__j : Int} (t_w4_ : mI w4_ = w4__j) {w5_ : Int32} {w5__j : Int} (t_w5_ : mI w5_ = w5__j) {w6_ : Int64} {w6__j : Int} (t_w6_ : mJ w6_ = w6__j) {w7_ : Int64} {w7__j : Int} (t_w7_ : mJ w7_ = w7__j) {w8_ : Int64} {w8__j : Int} (t_w8_ : mJ w8_ = w8__j) {w9_ : Int32} {w9__j : Int} (t_w9_ : mI w9_ = w9__j) {w10_ : (Nat → Int64)} {w10__j : (Nat → Int)} (t_w10_ : mL w10_ = w10__j) {w11_ : (Nat → Int64)} {w11__j : (Nat → Int)} (t_w11_ : mL w11_ = w11__j) : tl (mP mJ (mP mJ (mP mJ (mP mJ (mP mI (mP mI (mP mJ (mP mJ (mP mJ (mP mI (mP mI (mP mL mL)))))))))))) (iM_rolls_b33 N_j a1_j a2_j v_acts_j v_knownAt_j v_movedAct_j v_movedTerm_j v_without_j v_actKind_j v_actNumber_j v_actShire_j v_actTerm_j v_codes_j v_cutWorth_j v_cuts_j v_first_j v_isBlanched_j v_many_j v_mates_j v_pence_j v_second_j v_sort_j v_sumEnd_j v_sumFrom_j v_testEnd_j v_voidAt_j v_shireNow_j n_j w0__j w1__j w2__j w3__j w4__j w5__j w6__j w7__j w8__j w9__j w10__j w11__j) (pM_rolls_b33 N a1 a2 v_acts v_knownAt v_movedAct v_movedTerm v_without v_actKind v_actNumber v_actShire v_actTerm v_codes v_cutWorth v_cuts v_first v_isBlanched v_many v_mates v_pence v_second v_sort v_sumEnd v_sumFrom v_testEnd v_voidAt v_shireNow n w0_ w1_ w2_ w3_ w4_ w5_ w6_ w7_ w8_ w9_ w10_ w11_) := by
  subst t_N
  subst t_a1
  subst t_a2
  subst t_v_acts
  subst t_v_knownAt
  subst t_v_movedAct
  subst t_v_movedTerm
  subst t_v_without
  subst t_v_actKind
  subst t_v_actNumber
  subst t_v_actShire
  subst t_v_actTerm
  subst t_v_codes
  subst t_v_cutWorth
  subst t_v_cuts
  subst t_v_first
  subst t_v_isBlanched
  subst t_v_many
  subst t_v_mates
  subst t_v_pence
  subst t_v_second
  subst t_v_sort
  subst t_v_sumEnd
  subst t_v_sumFrom
  subst t_v_testEnd
  subst t_v_voidAt
  subst t_v_shireNow
  subst t_n
  subst t_w0_
  subst t_w1_
  subst t_w2_
  subst t_w3_
  subst t_w4_
  subst t_w5_
  subst t_w6_
  subst t_w7_
  subst t_w8_
  subst t_w9_
  subst t_w10_
  subst t_w11_
  exact tl_zlp12 (fun s2 s hs w0_ w1_ w2_ w3_ w4_ w5_ w6_ w7_ w8_ w9_ w10_ w11_ => t_pM_rolls_b33_F (Eq.refl N) (Eq.refl (mI a1)) (Eq.refl (mI a2)) (Eq.refl (mI v_acts)) (Eq.refl (mI v_knownAt)) (Eq.refl (mI v_movedAct)) (Eq.refl (mI v_movedTerm)) (Eq.refl (mI v_without)) (Eq.refl (mA v_actKind)) (Eq.refl (mA v_actNumber)) (Eq.refl (mA v_actShire)) (Eq.refl (mA v_actTerm)) (Eq.refl (mA v_codes)) (Eq.refl (mA v_cutWorth)) (Eq.refl (mA v_cuts)) (Eq.refl (mA v_first)) (Eq.refl (mA v_isBlanched)) (Eq.refl (mA v_many)) (Eq.refl (mA v_mates)) (Eq.refl (mA v_pence)) (Eq.refl (mA v_second)) (Eq.refl (mA v_sort)) (Eq.refl (mA v_sumEnd)) (Eq.refl (mA v_sumFrom)) (Eq.refl (mA v_testEnd)) (Eq.refl (mA v_voidAt)) (Eq.refl (mI v_shireNow)) hs (Eq.refl (mI w0_)) (Eq.refl (mJ w1_)) (Eq.refl (mJ w2_)) (Eq.refl (mJ w3_)) (Eq.refl (mI w4_)) (Eq.refl (mI w5_)) (Eq.refl (mJ w6_)) (Eq.refl (mJ w7_)) (Eq.refl (mJ w8_)) (Eq.refl (mI w9_)) (Eq.refl (mL w10_)) (Eq.refl (mL w11_))) n w0_ w1_ w2_ w3_ w4_ w5_ w6_ w7_ w8_ w9_ w10_ w11_
theorem t_pM_rolls_b21 {N N_j : Nat} (t_N : N = N_j) {a1 : Int32} {a1_j : Int} (t_a1 : mI a1 = a1_j) {a2 : Int32} {a2_j : Int} (t_a2 : mI a2 = a2_j) {v_acts : Int32} {v_acts_j : Int} (t_v_acts : mI v_acts = v_acts_j) {v_knownAt : Int32} {v_knownAt_j : Int} (t_v_knownAt : mI v_knownAt = v_knownAt_j) {v_movedAct : Int32} {v_movedAct_j : Int} (t_v_movedAct : mI v_movedAct = v_movedAct_j) {v_movedTerm : Int32} {v_movedTerm_j : Int} (t_v_movedTerm : mI v_movedTerm = v_movedTerm_j) {v_without : Int32} {v_without_j : Int} (t_v_without : mI v_without = v_without_j) {v_actKind : (Nat → Int32)} {v_actKind_j : (Nat → Int)} (t_v_actKind : mA v_actKind = v_actKind_j) {v_actNumber : (Nat → Int32)} {v_actNumber_j : (Nat → Int)} (t_v_actNumber : mA v_actNumber = v_actNumber_j) {v_actShire : (Nat → Int32)} {v_actShire_j : (Nat → Int)} (t_v_actShire : mA v_actShire = v_actShire_j) {v_actTerm : (Nat → Int32)} {v_actTerm_j : (Nat → Int)} (t_v_actTerm : mA v_actTerm = v_actTerm_j) {v_codes : (Nat → Int32)} {v_codes_j : (Nat → Int)} (t_v_codes : mA v_codes = v_codes_j) {v_cutWorth : (Nat → Int32)} {v_cutWorth_j : (Nat → Int)} (t_v_cutWorth : mA v_cutWorth = v_cutWorth_j) {v_cuts : (Nat → Int32)} {v_cuts_j : (Nat → Int)} (t_v_cuts : mA v_cuts = v_cuts_j) {v_first : (Nat → Int32)} {v_first_j : (Nat → Int)} (t_v_first : mA v_first = v_first_j) {v_isBlanched : (Nat → Int32)} {v_isBlanched_j : (Nat → Int)} (t_v_isBlanched : mA v_isBlanched = v_isBlanched_j) {v_many : (Nat → Int32)} {v_many_j : (Nat → Int)} (t_v_many : mA v_many = v_many_j) {v_mates : (Nat → Int32)} {v_mates_j : (Nat → Int)} (t_v_mates : mA v_mates = v_mates_j) {v_pence : (Nat → Int32)} {v_pence_j : (Nat → Int)} (t_v_pence : mA v_pence = v_pence_j) {v_second : (Nat → Int32)} {v_second_j : (Nat → Int)} (t_v_second : mA v_second = v_second_j) {v_sort : (Nat → Int32)} {v_sort_j : (Nat → Int)} (t_v_sort : mA v_sort = v_sort_j) {v_sumEnd : (Nat → Int32)} {v_sumEnd_j : (Nat → Int)} (t_v_sumEnd : mA v_sumEnd = v_sumEnd_j) {v_sumFrom : (Nat → Int32)} {v_sumFrom_j : (Nat → Int)} (t_v_sumFrom : mA v_sumFrom = v_sumFrom_j) {v_testEnd : (Nat → Int32)} {v_testEnd_j : (Nat → Int)} (t_v_testEnd : mA v_testEnd = v_testEnd_j) {v_voidAt : (Nat → Int32)} {v_voidAt_j : (Nat → Int)} (t_v_voidAt : mA v_voidAt = v_voidAt_j) {v_allowed : Int64} {v_allowed_j : Int} (t_v_allowed : mJ v_allowed = v_allowed_j) {v_debt : Int64} {v_debt_j : Int} (t_v_debt : mJ v_debt = v_debt_j) {v_farms : Int64} {v_farms_j : Int} (t_v_farms : mJ v_farms = v_farms_j) {v_isBlanchedNow : Int32} {v_isBlanchedNow_j : Int} (t_v_isBlanchedNow : mI v_isBlanchedNow = v_isBlanchedNow_j) {v_now : Int32} {v_now_j : Int} (t_v_now : mI v_now = v_now_j) {v_paid : Int64} {v_paid_j : Int} (t_v_paid : mJ v_paid = v_paid_j) {v_paidTold : Int64} {v_paidTold_j : Int} (t_v_paidTold : mJ v_paidTold = v_paidTold_j) {v_pardoned : Int64} {v_pardoned_j : Int} (t_v_pardoned : mJ v_pardoned = v_pardoned_j) {v_piled : Int32} {v_piled_j : Int} (t_v_piled : mI v_piled = v_piled_j) {v_shireNow : Int32} {v_shireNow_j : Int} (t_v_shireNow : mI v_shireNow = v_shireNow_j) {v_off : (Nat → Int64)} {v_off_j : (Nat → Int)} (t_v_off : mL v_off = v_off_j) {v_pile : (Nat → Int64)} {v_pile_j : (Nat → Int)} (t_v_pile : mL v_pile = v_pile_j) : tl (mP mJ (mP mJ (mP mJ (mP mJ (mP mI (mP mI (mP mJ (mP mJ (mP mJ (mP mI (mP mI (mP mL mL)))))))))))) (iM_rolls_b21 N_j a1_j a2_j v_acts_j v_knownAt_j v_movedAct_j v_movedTerm_j v_without_j v_actKind_j v_actNumber_j v_actShire_j v_actTerm_j v_codes_j v_cutWorth_j v_cuts_j v_first_j v_isBlanched_j v_many_j v_mates_j v_pence_j v_second_j v_sort_j v_sumEnd_j v_sumFrom_j v_testEnd_j v_voidAt_j v_allowed_j v_debt_j v_farms_j v_isBlanchedNow_j v_now_j v_paid_j v_paidTold_j v_pardoned_j v_piled_j v_shireNow_j v_off_j v_pile_j) (pM_rolls_b21 N a1 a2 v_acts v_knownAt v_movedAct v_movedTerm v_without v_actKind v_actNumber v_actShire v_actTerm v_codes v_cutWorth v_cuts v_first v_isBlanched v_many v_mates v_pence v_second v_sort v_sumEnd v_sumFrom v_testEnd v_voidAt v_allowed v_debt v_farms v_isBlanchedNow v_now v_paid v_paidTold v_pardoned v_piled v_shireNow v_off v_pile) := by
  subst t_N
  subst t_a1
  subst t_a2
  subst t_v_acts
  subst t_v_knownAt
  subst t_v_movedAct
  subst t_v_movedTerm
  subst t_v_without
  subst t_v_actKind
  subst t_v_actNumber
  subst t_v_actShire
  subst t_v_actTerm
  subst t_v_codes
  subst t_v_cutWorth
  subst t_v_cuts
  subst t_v_first
  subst t_v_isBlanched
  subst t_v_many
  subst t_v_mates
  subst t_v_pence
  subst t_v_second
  subst t_v_sort
  subst t_v_sumEnd
  subst t_v_sumFrom
  subst t_v_testEnd
  subst t_v_voidAt
  subst t_v_allowed
  subst t_v_debt
  subst t_v_farms
  subst t_v_isBlanchedNow
  subst t_v_now
  subst t_v_paid
  subst t_v_paidTold
  subst t_v_pardoned
  subst t_v_piled
  subst t_v_shireNow
  subst t_v_off
  subst t_v_pile
  unfold iM_rolls_b21 pM_rolls_b21
  exact (t_pM_rolls_b33 (Eq.refl N) (Eq.refl (mI a1)) (Eq.refl (mI a2)) (Eq.refl (mI v_acts)) (Eq.refl (mI v_knownAt)) (Eq.refl (mI v_movedAct)) (Eq.refl (mI v_movedTerm)) (Eq.refl (mI v_without)) (Eq.refl (mA v_actKind)) (Eq.refl (mA v_actNumber)) (Eq.refl (mA v_actShire)) (Eq.refl (mA v_actTerm)) (Eq.refl (mA v_codes)) (Eq.refl (mA v_cutWorth)) (Eq.refl (mA v_cuts)) (Eq.refl (mA v_first)) (Eq.refl (mA v_isBlanched)) (Eq.refl (mA v_many)) (Eq.refl (mA v_mates)) (Eq.refl (mA v_pence)) (Eq.refl (mA v_second)) (Eq.refl (mA v_sort)) (Eq.refl (mA v_sumEnd)) (Eq.refl (mA v_sumFrom)) (Eq.refl (mA v_testEnd)) (Eq.refl (mA v_voidAt)) (Eq.refl (mI a1)) (Eq.refl N) jlitI_0 (Eq.refl (mJ v_allowed)) jlitJ_0 (Eq.refl (mJ v_farms)) (Eq.refl (mI v_isBlanchedNow)) (Eq.refl (mI v_now)) (Eq.refl (mJ v_paid)) (Eq.refl (mJ v_paidTold)) (Eq.refl (mJ v_pardoned)) (Eq.refl (mI v_piled)) (Eq.refl (mL v_off)) (Eq.refl (mL v_pile)))
theorem t_pM_rolls {N N_j : Nat} (t_N : N = N_j) {a1 : Int32} {a1_j : Int} (t_a1 : mI a1 = a1_j) {a2 : Int32} {a2_j : Int} (t_a2 : mI a2 = a2_j) {v_acts : Int32} {v_acts_j : Int} (t_v_acts : mI v_acts = v_acts_j) {v_allowed : Int64} {v_allowed_j : Int} (t_v_allowed : mJ v_allowed = v_allowed_j) {v_debt : Int64} {v_debt_j : Int} (t_v_debt : mJ v_debt = v_debt_j) {v_farms : Int64} {v_farms_j : Int} (t_v_farms : mJ v_farms = v_farms_j) {v_isBlanchedNow : Int32} {v_isBlanchedNow_j : Int} (t_v_isBlanchedNow : mI v_isBlanchedNow = v_isBlanchedNow_j) {v_knownAt : Int32} {v_knownAt_j : Int} (t_v_knownAt : mI v_knownAt = v_knownAt_j) {v_movedAct : Int32} {v_movedAct_j : Int} (t_v_movedAct : mI v_movedAct = v_movedAct_j) {v_movedTerm : Int32} {v_movedTerm_j : Int} (t_v_movedTerm : mI v_movedTerm = v_movedTerm_j) {v_now : Int32} {v_now_j : Int} (t_v_now : mI v_now = v_now_j) {v_paid : Int64} {v_paid_j : Int} (t_v_paid : mJ v_paid = v_paid_j) {v_paidTold : Int64} {v_paidTold_j : Int} (t_v_paidTold : mJ v_paidTold = v_paidTold_j) {v_pardoned : Int64} {v_pardoned_j : Int} (t_v_pardoned : mJ v_pardoned = v_pardoned_j) {v_piled : Int32} {v_piled_j : Int} (t_v_piled : mI v_piled = v_piled_j) {v_shireNow : Int32} {v_shireNow_j : Int} (t_v_shireNow : mI v_shireNow = v_shireNow_j) {v_without : Int32} {v_without_j : Int} (t_v_without : mI v_without = v_without_j) {v_actKind : (Nat → Int32)} {v_actKind_j : (Nat → Int)} (t_v_actKind : mA v_actKind = v_actKind_j) {v_actNumber : (Nat → Int32)} {v_actNumber_j : (Nat → Int)} (t_v_actNumber : mA v_actNumber = v_actNumber_j) {v_actShire : (Nat → Int32)} {v_actShire_j : (Nat → Int)} (t_v_actShire : mA v_actShire = v_actShire_j) {v_actTerm : (Nat → Int32)} {v_actTerm_j : (Nat → Int)} (t_v_actTerm : mA v_actTerm = v_actTerm_j) {v_codes : (Nat → Int32)} {v_codes_j : (Nat → Int)} (t_v_codes : mA v_codes = v_codes_j) {v_cutWorth : (Nat → Int32)} {v_cutWorth_j : (Nat → Int)} (t_v_cutWorth : mA v_cutWorth = v_cutWorth_j) {v_cuts : (Nat → Int32)} {v_cuts_j : (Nat → Int)} (t_v_cuts : mA v_cuts = v_cuts_j) {v_first : (Nat → Int32)} {v_first_j : (Nat → Int)} (t_v_first : mA v_first = v_first_j) {v_isBlanched : (Nat → Int32)} {v_isBlanched_j : (Nat → Int)} (t_v_isBlanched : mA v_isBlanched = v_isBlanched_j) {v_many : (Nat → Int32)} {v_many_j : (Nat → Int)} (t_v_many : mA v_many = v_many_j) {v_mates : (Nat → Int32)} {v_mates_j : (Nat → Int)} (t_v_mates : mA v_mates = v_mates_j) {v_off : (Nat → Int64)} {v_off_j : (Nat → Int)} (t_v_off : mL v_off = v_off_j) {v_pence : (Nat → Int32)} {v_pence_j : (Nat → Int)} (t_v_pence : mA v_pence = v_pence_j) {v_pile : (Nat → Int64)} {v_pile_j : (Nat → Int)} (t_v_pile : mL v_pile = v_pile_j) {v_second : (Nat → Int32)} {v_second_j : (Nat → Int)} (t_v_second : mA v_second = v_second_j) {v_sort : (Nat → Int32)} {v_sort_j : (Nat → Int)} (t_v_sort : mA v_sort = v_sort_j) {v_sumEnd : (Nat → Int32)} {v_sumEnd_j : (Nat → Int)} (t_v_sumEnd : mA v_sumEnd = v_sumEnd_j) {v_sumFrom : (Nat → Int32)} {v_sumFrom_j : (Nat → Int)} (t_v_sumFrom : mA v_sumFrom = v_sumFrom_j) {v_testEnd : (Nat → Int32)} {v_testEnd_j : (Nat → Int)} (t_v_testEnd : mA v_testEnd = v_testEnd_j) {v_voidAt : (Nat → Int32)} {v_voidAt_j : (Nat → Int)} (t_v_voidAt : mA v_voidAt = v_voidAt_j) : tl (mP mJ (mP mJ (mP mJ (mP mJ (mP mI (mP mI (mP mJ (mP mJ (mP mJ (mP mI (mP mI (mP mL mL)))))))))))) (iM_rolls N_j a1_j a2_j v_acts_j v_allowed_j v_debt_j v_farms_j v_isBlanchedNow_j v_knownAt_j v_movedAct_j v_movedTerm_j v_now_j v_paid_j v_paidTold_j v_pardoned_j v_piled_j v_shireNow_j v_without_j v_actKind_j v_actNumber_j v_actShire_j v_actTerm_j v_codes_j v_cutWorth_j v_cuts_j v_first_j v_isBlanched_j v_many_j v_mates_j v_off_j v_pence_j v_pile_j v_second_j v_sort_j v_sumEnd_j v_sumFrom_j v_testEnd_j v_voidAt_j) (pM_rolls N a1 a2 v_acts v_allowed v_debt v_farms v_isBlanchedNow v_knownAt v_movedAct v_movedTerm v_now v_paid v_paidTold v_pardoned v_piled v_shireNow v_without v_actKind v_actNumber v_actShire v_actTerm v_codes v_cutWorth v_cuts v_first v_isBlanched v_many v_mates v_off v_pence v_pile v_second v_sort v_sumEnd v_sumFrom v_testEnd v_voidAt) := by
  subst t_N
  subst t_a1
  subst t_a2
  subst t_v_acts
  subst t_v_allowed
  subst t_v_debt
  subst t_v_farms
  subst t_v_isBlanchedNow
  subst t_v_knownAt
  subst t_v_movedAct
  subst t_v_movedTerm
  subst t_v_now
  subst t_v_paid
  subst t_v_paidTold
  subst t_v_pardoned
  subst t_v_piled
  subst t_v_shireNow
  subst t_v_without
  subst t_v_actKind
  subst t_v_actNumber
  subst t_v_actShire
  subst t_v_actTerm
  subst t_v_codes
  subst t_v_cutWorth
  subst t_v_cuts
  subst t_v_first
  subst t_v_isBlanched
  subst t_v_many
  subst t_v_mates
  subst t_v_off
  subst t_v_pence
  subst t_v_pile
  subst t_v_second
  subst t_v_sort
  subst t_v_sumEnd
  subst t_v_sumFrom
  subst t_v_testEnd
  subst t_v_voidAt
  unfold iM_rolls pM_rolls
  exact (t_pM_rolls_b2 (Eq.refl N) (Eq.refl (mI a1)) (Eq.refl (mI a2)) (Eq.refl (mI v_acts)) (Eq.refl (mI v_knownAt)) (Eq.refl (mI v_movedAct)) (Eq.refl (mI v_movedTerm)) (Eq.refl (mI v_without)) (Eq.refl (mA v_actKind)) (Eq.refl (mA v_actNumber)) (Eq.refl (mA v_actShire)) (Eq.refl (mA v_actTerm)) (Eq.refl (mA v_codes)) (Eq.refl (mA v_cutWorth)) (Eq.refl (mA v_cuts)) (Eq.refl (mA v_first)) (Eq.refl (mA v_isBlanched)) (Eq.refl (mA v_many)) (Eq.refl (mA v_mates)) (Eq.refl (mA v_pence)) (Eq.refl (mA v_second)) (Eq.refl (mA v_sort)) (Eq.refl (mA v_sumEnd)) (Eq.refl (mA v_sumFrom)) (Eq.refl (mA v_testEnd)) (Eq.refl (mA v_voidAt)) (Eq.refl (mJ v_allowed)) (Eq.refl (mJ v_debt)) (Eq.refl (mJ v_farms)) (Eq.refl (mI v_isBlanchedNow)) (Eq.refl (mI v_now)) (Eq.refl (mJ v_paid)) (Eq.refl (mJ v_paidTold)) (Eq.refl (mJ v_pardoned)) (Eq.refl (mI v_piled)) (Eq.refl (mI v_shireNow)) (Eq.refl (mL v_pile)) (fun v_off_k1 => by exact (t_pM_rolls_b21 (Eq.refl N) (Eq.refl (mI a1)) (Eq.refl (mI a2)) (Eq.refl (mI v_acts)) (Eq.refl (mI v_knownAt)) (Eq.refl (mI v_movedAct)) (Eq.refl (mI v_movedTerm)) (Eq.refl (mI v_without)) (Eq.refl (mA v_actKind)) (Eq.refl (mA v_actNumber)) (Eq.refl (mA v_actShire)) (Eq.refl (mA v_actTerm)) (Eq.refl (mA v_codes)) (Eq.refl (mA v_cutWorth)) (Eq.refl (mA v_cuts)) (Eq.refl (mA v_first)) (Eq.refl (mA v_isBlanched)) (Eq.refl (mA v_many)) (Eq.refl (mA v_mates)) (Eq.refl (mA v_pence)) (Eq.refl (mA v_second)) (Eq.refl (mA v_sort)) (Eq.refl (mA v_sumEnd)) (Eq.refl (mA v_sumFrom)) (Eq.refl (mA v_testEnd)) (Eq.refl (mA v_voidAt)) (Eq.refl (mJ v_allowed)) (Eq.refl (mJ v_debt)) (Eq.refl (mJ v_farms)) (Eq.refl (mI v_isBlanchedNow)) (Eq.refl (mI v_now)) (Eq.refl (mJ v_paid)) (Eq.refl (mJ v_paidTold)) (Eq.refl (mJ v_pardoned)) (Eq.refl (mI v_piled)) (Eq.refl (mI v_shireNow)) (Eq.refl (mL v_off_k1)) (Eq.refl (mL v_pile)))) (Eq.refl N) jlitI_0 (Eq.refl (mL v_off)))
theorem t_pM_putOff_b7_F {N N_j : Nat} (t_N : N = N_j) {a1 : Int32} {a1_j : Int} (t_a1 : mI a1 = a1_j) {v_off : (Nat → Int64)} {v_off_j : (Nat → Int)} (t_v_off : mL v_off = v_off_j) {self : Int64 → Int32 → Option R_pM_putOff} {self_j : Int → Int → Option Int} (t_self : ∀ (q0_ : Int64) (q1_ : Int32), tl (mJ) (self_j (mJ q0_) (mI q1_)) (self q0_ q1_)) {x2 : Int64} {x2_j : Int} (t_x2 : mJ x2 = x2_j) {x4 : Int32} {x4_j : Int} (t_x4 : mI x4 = x4_j) : tl (mJ) (iM_putOff_b7_F N_j a1_j v_off_j self_j x2_j x4_j) (pM_putOff_b7_F N a1 v_off self x2 x4) := by
  subst t_N
  subst t_a1
  subst t_v_off
  subst t_x2
  subst t_x4
  unfold iM_putOff_b7_F pM_putOff_b7_F
  refine tl_ite (jc_le jlitI_60 (Eq.refl (mI x4))) ?_ ?_
  · exact (tl_some (Eq.refl (mJ x2)))
  · refine tl_gd (jg_ib (Eq.refl (mI x4))) (fun _ => ?_)
    refine tl_g (fun h1 => ?_)
    refine tl_g (fun h2 => ?_)
    exact (tl_e2 (jL_add (Eq.refl (mJ x2)) (jrdL (Eq.refl (mL v_off)) (jx (Eq.refl (mI x4)))) h1) (ja_add (Eq.refl (mI x4)) jlitI_1 h2) (t_self _ _))
theorem t_pM_putOff_b7 {N N_j : Nat} (t_N : N = N_j) {a1 : Int32} {a1_j : Int} (t_a1 : mI a1 = a1_j) {v_off : (Nat → Int64)} {v_off_j : (Nat → Int)} (t_v_off : mL v_off = v_off_j) {n n_j : Nat} (t_n : n = n_j) {w0_ : Int64} {w0__j : Int} (t_w0_ : mJ w0_ = w0__j) {w1_ : Int32} {w1__j : Int} (t_w1_ : mI w1_ = w1__j) : tl (mJ) (iM_putOff_b7 N_j a1_j v_off_j n_j w0__j w1__j) (pM_putOff_b7 N a1 v_off n w0_ w1_) := by
  subst t_N
  subst t_a1
  subst t_v_off
  subst t_n
  subst t_w0_
  subst t_w1_
  exact tl_zlp2 (fun s2 s hs w0_ w1_ => t_pM_putOff_b7_F (Eq.refl N) (Eq.refl (mI a1)) (Eq.refl (mL v_off)) hs (Eq.refl (mJ w0_)) (Eq.refl (mI w1_))) n w0_ w1_
theorem t_pM_putOff {N N_j : Nat} (t_N : N = N_j) {a1 : Int32} {a1_j : Int} (t_a1 : mI a1 = a1_j) {v_off : (Nat → Int64)} {v_off_j : (Nat → Int)} (t_v_off : mL v_off = v_off_j) : tl (mJ) (iM_putOff N_j a1_j v_off_j) (pM_putOff N a1 v_off) := by
  subst t_N
  subst t_a1
  subst t_v_off
  unfold iM_putOff pM_putOff
  refine tl_g (fun h1 => ?_)
  exact (t_pM_putOff_b7 (Eq.refl N) (Eq.refl (mI a1)) (Eq.refl (mL v_off)) (Eq.refl N) jlitJ_0 (ja_add (Eq.refl (mI a1)) jlitI_1 h1))
theorem t_pM_roll_b26 {N N_j : Nat} (t_N : N = N_j) {a1 : Int32} {a1_j : Int} (t_a1 : mI a1 = a1_j) {a2 : Int32} {a2_j : Int} (t_a2 : mI a2 = a2_j) {a3 : Int32} {a3_j : Int} (t_a3 : mI a3 = a3_j) {v_acts : Int32} {v_acts_j : Int} (t_v_acts : mI v_acts = v_acts_j) {v_as : Int32} {v_as_j : Int} (t_v_as : mI v_as = v_as_j) {v_grain : Int32} {v_grain_j : Int} (t_v_grain : mI v_grain = v_grain_j) {v_limit : Int32} {v_limit_j : Int} (t_v_limit : mI v_limit = v_limit_j) {v_lost : Int32} {v_lost_j : Int} (t_v_lost : mI v_lost = v_lost_j) {v_movedTerm : Int32} {v_movedTerm_j : Int} (t_v_movedTerm : mI v_movedTerm = v_movedTerm_j) {v_actKind : (Nat → Int32)} {v_actKind_j : (Nat → Int)} (t_v_actKind : mA v_actKind = v_actKind_j) {v_actNumber : (Nat → Int32)} {v_actNumber_j : (Nat → Int)} (t_v_actNumber : mA v_actNumber = v_actNumber_j) {v_actShire : (Nat → Int32)} {v_actShire_j : (Nat → Int)} (t_v_actShire : mA v_actShire = v_actShire_j) {v_actTerm : (Nat → Int32)} {v_actTerm_j : (Nat → Int)} (t_v_actTerm : mA v_actTerm = v_actTerm_j) {v_codes : (Nat → Int32)} {v_codes_j : (Nat → Int)} (t_v_codes : mA v_codes = v_codes_j) {v_cutAt : (Nat → Int32)} {v_cutAt_j : (Nat → Int)} (t_v_cutAt : mA v_cutAt = v_cutAt_j) {v_cutWorth : (Nat → Int32)} {v_cutWorth_j : (Nat → Int)} (t_v_cutWorth : mA v_cutWorth = v_cutWorth_j) {v_cuts : (Nat → Int32)} {v_cuts_j : (Nat → Int)} (t_v_cuts : mA v_cuts = v_cuts_j) {v_first : (Nat → Int32)} {v_first_j : (Nat → Int)} (t_v_first : mA v_first = v_first_j) {v_isBlanched : (Nat → Int32)} {v_isBlanched_j : (Nat → Int)} (t_v_isBlanched : mA v_isBlanched = v_isBlanched_j) {v_many : (Nat → Int32)} {v_many_j : (Nat → Int)} (t_v_many : mA v_many = v_many_j) {v_pence : (Nat → Int32)} {v_pence_j : (Nat → Int)} (t_v_pence : mA v_pence = v_pence_j) {v_second : (Nat → Int32)} {v_second_j : (Nat → Int)} (t_v_second : mA v_second = v_second_j) {v_sort : (Nat → Int32)} {v_sort_j : (Nat → Int)} (t_v_sort : mA v_sort = v_sort_j) {v_sumEnd : (Nat → Int32)} {v_sumEnd_j : (Nat → Int)} (t_v_sumEnd : mA v_sumEnd = v_sumEnd_j) {v_sumFrom : (Nat → Int32)} {v_sumFrom_j : (Nat → Int)} (t_v_sumFrom : mA v_sumFrom = v_sumFrom_j) {v_testEnd : (Nat → Int32)} {v_testEnd_j : (Nat → Int)} (t_v_testEnd : mA v_testEnd = v_testEnd_j) {v_voidAt : (Nat → Int32)} {v_voidAt_j : (Nat → Int)} (t_v_voidAt : mA v_voidAt = v_voidAt_j) {v_allowed : Int64} {v_allowed_j : Int} (t_v_allowed : mJ v_allowed = v_allowed_j) {v_debt : Int64} {v_debt_j : Int} (t_v_debt : mJ v_debt = v_debt_j) {v_farms : Int64} {v_farms_j : Int} (t_v_farms : mJ v_farms = v_farms_j) {v_isBlanchedNow : Int32} {v_isBlanchedNow_j : Int} (t_v_isBlanchedNow : mI v_isBlanchedNow = v_isBlanchedNow_j) {v_knownAt : Int32} {v_knownAt_j : Int} (t_v_knownAt : mI v_knownAt = v_knownAt_j) {v_movedAct : Int32} {v_movedAct_j : Int} (t_v_movedAct : mI v_movedAct = v_movedAct_j) {v_now : Int32} {v_now_j : Int} (t_v_now : mI v_now = v_now_j) {v_paid : Int64} {v_paid_j : Int} (t_v_paid : mJ v_paid = v_paid_j) {v_paidTold : Int64} {v_paidTold_j : Int} (t_v_paidTold : mJ v_paidTold = v_paidTold_j) {v_pardoned : Int64} {v_pardoned_j : Int} (t_v_pardoned : mJ v_pardoned = v_pardoned_j) {v_piled : Int32} {v_piled_j : Int} (t_v_piled : mI v_piled = v_piled_j) {v_shireNow : Int32} {v_shireNow_j : Int} (t_v_shireNow : mI v_shireNow = v_shireNow_j) {v_without : Int32} {v_without_j : Int} (t_v_without : mI v_without = v_without_j) {v_best : (Nat → Int32)} {v_best_j : (Nat → Int)} (t_v_best : mA v_best = v_best_j) {v_cost : (Nat → Int32)} {v_cost_j : (Nat → Int)} (t_v_cost : mA v_cost = v_cost_j) {v_fits : (Nat → Int32)} {v_fits_j : (Nat → Int)} (t_v_fits : mA v_fits = v_fits_j) {v_mates : (Nat → Int32)} {v_mates_j : (Nat → Int)} (t_v_mates : mA v_mates = v_mates_j) {v_off : (Nat → Int64)} {v_off_j : (Nat → Int)} (t_v_off : mL v_off = v_off_j) {v_pile : (Nat → Int64)} {v_pile_j : (Nat → Int)} (t_v_pile : mL v_pile = v_pile_j) : tl (mP mJ (mP mJ (mP mJ (mP mJ (mP mI (mP mI (mP mI (mP mI (mP mJ (mP mJ (mP mJ (mP mI (mP mI (mP mI (mP mA (mP mA (mP mA (mP mA (mP mL mL))))))))))))))))))) (iM_roll_b26 N_j a1_j a2_j a3_j v_acts_j v_as_j v_grain_j v_limit_j v_lost_j v_movedTerm_j v_actKind_j v_actNumber_j v_actShire_j v_actTerm_j v_codes_j v_cutAt_j v_cutWorth_j v_cuts_j v_first_j v_isBlanched_j v_many_j v_pence_j v_second_j v_sort_j v_sumEnd_j v_sumFrom_j v_testEnd_j v_voidAt_j v_allowed_j v_debt_j v_farms_j v_isBlanchedNow_j v_knownAt_j v_movedAct_j v_now_j v_paid_j v_paidTold_j v_pardoned_j v_piled_j v_shireNow_j v_without_j v_best_j v_cost_j v_fits_j v_mates_j v_off_j v_pile_j) (pM_roll_b26 N a1 a2 a3 v_acts v_as v_grain v_limit v_lost v_movedTerm v_actKind v_actNumber v_actShire v_actTerm v_codes v_cutAt v_cutWorth v_cuts v_first v_isBlanched v_many v_pence v_second v_sort v_sumEnd v_sumFrom v_testEnd v_voidAt v_allowed v_debt v_farms v_isBlanchedNow v_knownAt v_movedAct v_now v_paid v_paidTold v_pardoned v_piled v_shireNow v_without v_best v_cost v_fits v_mates v_off v_pile) := by
  subst t_N
  subst t_a1
  subst t_a2
  subst t_a3
  subst t_v_acts
  subst t_v_as
  subst t_v_grain
  subst t_v_limit
  subst t_v_lost
  subst t_v_movedTerm
  subst t_v_actKind
  subst t_v_actNumber
  subst t_v_actShire
  subst t_v_actTerm
  subst t_v_codes
  subst t_v_cutAt
  subst t_v_cutWorth
  subst t_v_cuts
  subst t_v_first
  subst t_v_isBlanched
  subst t_v_many
  subst t_v_pence
  subst t_v_second
  subst t_v_sort
  subst t_v_sumEnd
  subst t_v_sumFrom
  subst t_v_testEnd
  subst t_v_voidAt
  subst t_v_allowed
  subst t_v_debt
  subst t_v_farms
  subst t_v_isBlanchedNow
  subst t_v_knownAt
  subst t_v_movedAct
  subst t_v_now
  subst t_v_paid
  subst t_v_paidTold
  subst t_v_pardoned
  subst t_v_piled
  subst t_v_shireNow
  subst t_v_without
  subst t_v_best
  subst t_v_cost
  subst t_v_fits
  subst t_v_mates
  subst t_v_off
  subst t_v_pile
  unfold iM_roll_b26 pM_roll_b26
  exact (tl_some (jp2 jlitJ_m2000000000000 (jp2 (Eq.refl (mJ v_allowed)) (jp2 (Eq.refl (mJ v_debt)) (jp2 (Eq.refl (mJ v_farms)) (jp2 (Eq.refl (mI v_isBlanchedNow)) (jp2 (Eq.refl (mI v_knownAt)) (jp2 (Eq.refl (mI v_movedAct)) (jp2 (Eq.refl (mI v_now)) (jp2 (Eq.refl (mJ v_paid)) (jp2 (Eq.refl (mJ v_paidTold)) (jp2 (Eq.refl (mJ v_pardoned)) (jp2 (Eq.refl (mI v_piled)) (jp2 (Eq.refl (mI v_shireNow)) (jp2 (Eq.refl (mI v_without)) (jp2 (Eq.refl (mA v_best)) (jp2 (Eq.refl (mA v_cost)) (jp2 (Eq.refl (mA v_fits)) (jp2 (Eq.refl (mA v_mates)) (jp2 (Eq.refl (mL v_off)) (Eq.refl (mL v_pile))))))))))))))))))))))
theorem t_pM_roll {N N_j : Nat} (t_N : N = N_j) {a1 : Int32} {a1_j : Int} (t_a1 : mI a1 = a1_j) {a2 : Int32} {a2_j : Int} (t_a2 : mI a2 = a2_j) {a3 : Int32} {a3_j : Int} (t_a3 : mI a3 = a3_j) {v_acts : Int32} {v_acts_j : Int} (t_v_acts : mI v_acts = v_acts_j) {v_allowed : Int64} {v_allowed_j : Int} (t_v_allowed : mJ v_allowed = v_allowed_j) {v_as : Int32} {v_as_j : Int} (t_v_as : mI v_as = v_as_j) {v_debt : Int64} {v_debt_j : Int} (t_v_debt : mJ v_debt = v_debt_j) {v_farms : Int64} {v_farms_j : Int} (t_v_farms : mJ v_farms = v_farms_j) {v_grain : Int32} {v_grain_j : Int} (t_v_grain : mI v_grain = v_grain_j) {v_isBlanchedNow : Int32} {v_isBlanchedNow_j : Int} (t_v_isBlanchedNow : mI v_isBlanchedNow = v_isBlanchedNow_j) {v_knownAt : Int32} {v_knownAt_j : Int} (t_v_knownAt : mI v_knownAt = v_knownAt_j) {v_limit : Int32} {v_limit_j : Int} (t_v_limit : mI v_limit = v_limit_j) {v_lost : Int32} {v_lost_j : Int} (t_v_lost : mI v_lost = v_lost_j) {v_movedAct : Int32} {v_movedAct_j : Int} (t_v_movedAct : mI v_movedAct = v_movedAct_j) {v_movedTerm : Int32} {v_movedTerm_j : Int} (t_v_movedTerm : mI v_movedTerm = v_movedTerm_j) {v_now : Int32} {v_now_j : Int} (t_v_now : mI v_now = v_now_j) {v_paid : Int64} {v_paid_j : Int} (t_v_paid : mJ v_paid = v_paid_j) {v_paidTold : Int64} {v_paidTold_j : Int} (t_v_paidTold : mJ v_paidTold = v_paidTold_j) {v_pardoned : Int64} {v_pardoned_j : Int} (t_v_pardoned : mJ v_pardoned = v_pardoned_j) {v_piled : Int32} {v_piled_j : Int} (t_v_piled : mI v_piled = v_piled_j) {v_shireNow : Int32} {v_shireNow_j : Int} (t_v_shireNow : mI v_shireNow = v_shireNow_j) {v_without : Int32} {v_without_j : Int} (t_v_without : mI v_without = v_without_j) {v_actKind : (Nat → Int32)} {v_actKind_j : (Nat → Int)} (t_v_actKind : mA v_actKind = v_actKind_j) {v_actNumber : (Nat → Int32)} {v_actNumber_j : (Nat → Int)} (t_v_actNumber : mA v_actNumber = v_actNumber_j) {v_actShire : (Nat → Int32)} {v_actShire_j : (Nat → Int)} (t_v_actShire : mA v_actShire = v_actShire_j) {v_actTerm : (Nat → Int32)} {v_actTerm_j : (Nat → Int)} (t_v_actTerm : mA v_actTerm = v_actTerm_j) {v_best : (Nat → Int32)} {v_best_j : (Nat → Int)} (t_v_best : mA v_best = v_best_j) {v_codes : (Nat → Int32)} {v_codes_j : (Nat → Int)} (t_v_codes : mA v_codes = v_codes_j) {v_cost : (Nat → Int32)} {v_cost_j : (Nat → Int)} (t_v_cost : mA v_cost = v_cost_j) {v_cutAt : (Nat → Int32)} {v_cutAt_j : (Nat → Int)} (t_v_cutAt : mA v_cutAt = v_cutAt_j) {v_cutWorth : (Nat → Int32)} {v_cutWorth_j : (Nat → Int)} (t_v_cutWorth : mA v_cutWorth = v_cutWorth_j) {v_cuts : (Nat → Int32)} {v_cuts_j : (Nat → Int)} (t_v_cuts : mA v_cuts = v_cuts_j) {v_first : (Nat → Int32)} {v_first_j : (Nat → Int)} (t_v_first : mA v_first = v_first_j) {v_fits : (Nat → Int32)} {v_fits_j : (Nat → Int)} (t_v_fits : mA v_fits = v_fits_j) {v_isBlanched : (Nat → Int32)} {v_isBlanched_j : (Nat → Int)} (t_v_isBlanched : mA v_isBlanched = v_isBlanched_j) {v_many : (Nat → Int32)} {v_many_j : (Nat → Int)} (t_v_many : mA v_many = v_many_j) {v_mates : (Nat → Int32)} {v_mates_j : (Nat → Int)} (t_v_mates : mA v_mates = v_mates_j) {v_off : (Nat → Int64)} {v_off_j : (Nat → Int)} (t_v_off : mL v_off = v_off_j) {v_pence : (Nat → Int32)} {v_pence_j : (Nat → Int)} (t_v_pence : mA v_pence = v_pence_j) {v_pile : (Nat → Int64)} {v_pile_j : (Nat → Int)} (t_v_pile : mL v_pile = v_pile_j) {v_second : (Nat → Int32)} {v_second_j : (Nat → Int)} (t_v_second : mA v_second = v_second_j) {v_sort : (Nat → Int32)} {v_sort_j : (Nat → Int)} (t_v_sort : mA v_sort = v_sort_j) {v_sumEnd : (Nat → Int32)} {v_sumEnd_j : (Nat → Int)} (t_v_sumEnd : mA v_sumEnd = v_sumEnd_j) {v_sumFrom : (Nat → Int32)} {v_sumFrom_j : (Nat → Int)} (t_v_sumFrom : mA v_sumFrom = v_sumFrom_j) {v_testEnd : (Nat → Int32)} {v_testEnd_j : (Nat → Int)} (t_v_testEnd : mA v_testEnd = v_testEnd_j) {v_voidAt : (Nat → Int32)} {v_voidAt_j : (Nat → Int)} (t_v_voidAt : mA v_voidAt = v_voidAt_j) : tl (mP mJ (mP mJ (mP mJ (mP mJ (mP mI (mP mI (mP mI (mP mI (mP mJ (mP mJ (mP mJ (mP mI (mP mI (mP mI (mP mA (mP mA (mP mA (mP mA (mP mL mL))))))))))))))))))) (iM_roll N_j a1_j a2_j a3_j v_acts_j v_allowed_j v_as_j v_debt_j v_farms_j v_grain_j v_isBlanchedNow_j v_knownAt_j v_limit_j v_lost_j v_movedAct_j v_movedTerm_j v_now_j v_paid_j v_paidTold_j v_pardoned_j v_piled_j v_shireNow_j v_without_j v_actKind_j v_actNumber_j v_actShire_j v_actTerm_j v_best_j v_codes_j v_cost_j v_cutAt_j v_cutWorth_j v_cuts_j v_first_j v_fits_j v_isBlanched_j v_many_j v_mates_j v_off_j v_pence_j v_pile_j v_second_j v_sort_j v_sumEnd_j v_sumFrom_j v_testEnd_j v_voidAt_j) (pM_roll N a1 a2 a3 v_acts v_allowed v_as v_debt v_farms v_grain v_isBlanchedNow v_knownAt v_limit v_lost v_movedAct v_movedTerm v_now v_paid v_paidTold v_pardoned v_piled v_shireNow v_without v_actKind v_actNumber v_actShire v_actTerm v_best v_codes v_cost v_cutAt v_cutWorth v_cuts v_first v_fits v_isBlanched v_many v_mates v_off v_pence v_pile v_second v_sort v_sumEnd v_sumFrom v_testEnd v_voidAt) := by
  subst t_N
  subst t_a1
  subst t_a2
  subst t_a3
  subst t_v_acts
  subst t_v_allowed
  subst t_v_as
  subst t_v_debt
  subst t_v_farms
  subst t_v_grain
  subst t_v_isBlanchedNow
  subst t_v_knownAt
  subst t_v_limit
  subst t_v_lost
  subst t_v_movedAct
  subst t_v_movedTerm
  subst t_v_now
  subst t_v_paid
  subst t_v_paidTold
  subst t_v_pardoned
  subst t_v_piled
  subst t_v_shireNow
  subst t_v_without
  subst t_v_actKind
  subst t_v_actNumber
  subst t_v_actShire
  subst t_v_actTerm
  subst t_v_best
  subst t_v_codes
  subst t_v_cost
  subst t_v_cutAt
  subst t_v_cutWorth
  subst t_v_cuts
  subst t_v_first
  subst t_v_fits
  subst t_v_isBlanched
  subst t_v_many
  subst t_v_mates
  subst t_v_off
  subst t_v_pence
  subst t_v_pile
  subst t_v_second
  subst t_v_sort
  subst t_v_sumEnd
  subst t_v_sumFrom
  subst t_v_testEnd
  subst t_v_voidAt
  unfold iM_roll pM_roll
  refine tl_bd1 (t_pM_isShire (Eq.refl (mI a1))) (fun rc1 => ?_)
  refine tl_ite (jc_eq (Eq.refl (mI rc1)) jlitI_0) ?_ ?_
  · exact (t_pM_roll_b26 (Eq.refl N) (Eq.refl (mI a1)) (Eq.refl (mI a2)) (Eq.refl (mI a3)) (Eq.refl (mI v_acts)) (Eq.refl (mI v_as)) (Eq.refl (mI v_grain)) (Eq.refl (mI v_limit)) (Eq.refl (mI v_lost)) (Eq.refl (mI v_movedTerm)) (Eq.refl (mA v_actKind)) (Eq.refl (mA v_actNumber)) (Eq.refl (mA v_actShire)) (Eq.refl (mA v_actTerm)) (Eq.refl (mA v_codes)) (Eq.refl (mA v_cutAt)) (Eq.refl (mA v_cutWorth)) (Eq.refl (mA v_cuts)) (Eq.refl (mA v_first)) (Eq.refl (mA v_isBlanched)) (Eq.refl (mA v_many)) (Eq.refl (mA v_pence)) (Eq.refl (mA v_second)) (Eq.refl (mA v_sort)) (Eq.refl (mA v_sumEnd)) (Eq.refl (mA v_sumFrom)) (Eq.refl (mA v_testEnd)) (Eq.refl (mA v_voidAt)) (Eq.refl (mJ v_allowed)) (Eq.refl (mJ v_debt)) (Eq.refl (mJ v_farms)) (Eq.refl (mI v_isBlanchedNow)) (Eq.refl (mI v_knownAt)) (Eq.refl (mI v_movedAct)) (Eq.refl (mI v_now)) (Eq.refl (mJ v_paid)) (Eq.refl (mJ v_paidTold)) (Eq.refl (mJ v_pardoned)) (Eq.refl (mI v_piled)) (Eq.refl (mI v_shireNow)) (Eq.refl (mI v_without)) (Eq.refl (mA v_best)) (Eq.refl (mA v_cost)) (Eq.refl (mA v_fits)) (Eq.refl (mA v_mates)) (Eq.refl (mL v_off)) (Eq.refl (mL v_pile)))
  · refine tl_bd1 (t_pM_isTerm (Eq.refl (mI a2))) (fun rc2 => ?_)
    refine tl_ite (jc_eq (Eq.refl (mI rc2)) jlitI_0) ?_ ?_
    · exact (t_pM_roll_b26 (Eq.refl N) (Eq.refl (mI a1)) (Eq.refl (mI a2)) (Eq.refl (mI a3)) (Eq.refl (mI v_acts)) (Eq.refl (mI v_as)) (Eq.refl (mI v_grain)) (Eq.refl (mI v_limit)) (Eq.refl (mI v_lost)) (Eq.refl (mI v_movedTerm)) (Eq.refl (mA v_actKind)) (Eq.refl (mA v_actNumber)) (Eq.refl (mA v_actShire)) (Eq.refl (mA v_actTerm)) (Eq.refl (mA v_codes)) (Eq.refl (mA v_cutAt)) (Eq.refl (mA v_cutWorth)) (Eq.refl (mA v_cuts)) (Eq.refl (mA v_first)) (Eq.refl (mA v_isBlanched)) (Eq.refl (mA v_many)) (Eq.refl (mA v_pence)) (Eq.refl (mA v_second)) (Eq.refl (mA v_sort)) (Eq.refl (mA v_sumEnd)) (Eq.refl (mA v_sumFrom)) (Eq.refl (mA v_testEnd)) (Eq.refl (mA v_voidAt)) (Eq.refl (mJ v_allowed)) (Eq.refl (mJ v_debt)) (Eq.refl (mJ v_farms)) (Eq.refl (mI v_isBlanchedNow)) (Eq.refl (mI v_knownAt)) (Eq.refl (mI v_movedAct)) (Eq.refl (mI v_now)) (Eq.refl (mJ v_paid)) (Eq.refl (mJ v_paidTold)) (Eq.refl (mJ v_pardoned)) (Eq.refl (mI v_piled)) (Eq.refl (mI v_shireNow)) (Eq.refl (mI v_without)) (Eq.refl (mA v_best)) (Eq.refl (mA v_cost)) (Eq.refl (mA v_fits)) (Eq.refl (mA v_mates)) (Eq.refl (mL v_off)) (Eq.refl (mL v_pile)))
    · refine tl_bd1 (t_pM_isIn (ja_i2l (Eq.refl (mI a3))) jlitJ_0 jlitJ_6) (fun rc3 => ?_)
      refine tl_ite (jc_eq (Eq.refl (mI rc3)) jlitI_0) ?_ ?_
      · exact (t_pM_roll_b26 (Eq.refl N) (Eq.refl (mI a1)) (Eq.refl (mI a2)) (Eq.refl (mI a3)) (Eq.refl (mI v_acts)) (Eq.refl (mI v_as)) (Eq.refl (mI v_grain)) (Eq.refl (mI v_limit)) (Eq.refl (mI v_lost)) (Eq.refl (mI v_movedTerm)) (Eq.refl (mA v_actKind)) (Eq.refl (mA v_actNumber)) (Eq.refl (mA v_actShire)) (Eq.refl (mA v_actTerm)) (Eq.refl (mA v_codes)) (Eq.refl (mA v_cutAt)) (Eq.refl (mA v_cutWorth)) (Eq.refl (mA v_cuts)) (Eq.refl (mA v_first)) (Eq.refl (mA v_isBlanched)) (Eq.refl (mA v_many)) (Eq.refl (mA v_pence)) (Eq.refl (mA v_second)) (Eq.refl (mA v_sort)) (Eq.refl (mA v_sumEnd)) (Eq.refl (mA v_sumFrom)) (Eq.refl (mA v_testEnd)) (Eq.refl (mA v_voidAt)) (Eq.refl (mJ v_allowed)) (Eq.refl (mJ v_debt)) (Eq.refl (mJ v_farms)) (Eq.refl (mI v_isBlanchedNow)) (Eq.refl (mI v_knownAt)) (Eq.refl (mI v_movedAct)) (Eq.refl (mI v_now)) (Eq.refl (mJ v_paid)) (Eq.refl (mJ v_paidTold)) (Eq.refl (mJ v_pardoned)) (Eq.refl (mI v_piled)) (Eq.refl (mI v_shireNow)) (Eq.refl (mI v_without)) (Eq.refl (mA v_best)) (Eq.refl (mA v_cost)) (Eq.refl (mA v_fits)) (Eq.refl (mA v_mates)) (Eq.refl (mL v_off)) (Eq.refl (mL v_pile)))
      · refine tl_bd4 (t_pM_matches (Eq.refl N) (Eq.refl (mI v_grain)) (Eq.refl (mI v_limit)) (Eq.refl (mI v_lost)) (Eq.refl (mA v_best)) (Eq.refl (mA v_cost)) (Eq.refl (mA v_cutAt)) (Eq.refl (mA v_cutWorth)) (Eq.refl (mA v_cuts)) (Eq.refl (mA v_fits)) (Eq.refl (mA v_mates))) (fun v_best_c4 v_cost_c4 v_fits_c4 v_mates_c4 => ?_)
        refine tl_bd1 (t_pM_asNow (Eq.refl (mI v_acts)) (Eq.refl (mI v_as))) (fun rc5 => ?_)
        refine tl_bd3 (t_pM_tellsAsKnown (Eq.refl (mI rc5)) (Eq.refl (mI v_knownAt)) (Eq.refl (mI v_movedAct)) (Eq.refl (mI v_without))) (fun v_knownAt_c6 v_movedAct_c6 v_without_c6 => ?_)
        refine tl_bd13 (t_pM_rolls (Eq.refl N) (Eq.refl (mI a1)) (Eq.refl (mI a2)) (Eq.refl (mI v_acts)) (Eq.refl (mJ v_allowed)) (Eq.refl (mJ v_debt)) (Eq.refl (mJ v_farms)) (Eq.refl (mI v_isBlanchedNow)) (Eq.refl (mI v_knownAt_c6)) (Eq.refl (mI v_movedAct_c6)) (Eq.refl (mI v_movedTerm)) (Eq.refl (mI v_now)) (Eq.refl (mJ v_paid)) (Eq.refl (mJ v_paidTold)) (Eq.refl (mJ v_pardoned)) (Eq.refl (mI v_piled)) (Eq.refl (mI v_shireNow)) (Eq.refl (mI v_without_c6)) (Eq.refl (mA v_actKind)) (Eq.refl (mA v_actNumber)) (Eq.refl (mA v_actShire)) (Eq.refl (mA v_actTerm)) (Eq.refl (mA v_codes)) (Eq.refl (mA v_cutWorth)) (Eq.refl (mA v_cuts)) (Eq.refl (mA v_first)) (Eq.refl (mA v_isBlanched)) (Eq.refl (mA v_many)) (Eq.refl (mA v_mates_c4)) (Eq.refl (mL v_off)) (Eq.refl (mA v_pence)) (Eq.refl (mL v_pile)) (Eq.refl (mA v_second)) (Eq.refl (mA v_sort)) (Eq.refl (mA v_sumEnd)) (Eq.refl (mA v_sumFrom)) (Eq.refl (mA v_testEnd)) (Eq.refl (mA v_voidAt))) (fun rc7 v_allowed_c7 v_debt_c7 v_farms_c7 v_isBlanchedNow_c7 v_now_c7 v_paid_c7 v_paidTold_c7 v_pardoned_c7 v_piled_c7 v_shireNow_c7 v_off_c7 v_pile_c7 => ?_)
        refine tl_ite (jc_eq (Eq.refl (mI a3)) jlitI_0) ?_ ?_
        · exact (tl_some (jp2 (Eq.refl (mJ rc7)) (jp2 (Eq.refl (mJ v_allowed_c7)) (jp2 (Eq.refl (mJ v_debt_c7)) (jp2 (Eq.refl (mJ v_farms_c7)) (jp2 (Eq.refl (mI v_isBlanchedNow_c7)) (jp2 (Eq.refl (mI v_knownAt_c6)) (jp2 (Eq.refl (mI v_movedAct_c6)) (jp2 (Eq.refl (mI v_now_c7)) (jp2 (Eq.refl (mJ v_paid_c7)) (jp2 (Eq.refl (mJ v_paidTold_c7)) (jp2 (Eq.refl (mJ v_pardoned_c7)) (jp2 (Eq.refl (mI v_piled_c7)) (jp2 (Eq.refl (mI v_shireNow_c7)) (jp2 (Eq.refl (mI v_without_c6)) (jp2 (Eq.refl (mA v_best_c4)) (jp2 (Eq.refl (mA v_cost_c4)) (jp2 (Eq.refl (mA v_fits_c4)) (jp2 (Eq.refl (mA v_mates_c4)) (jp2 (Eq.refl (mL v_off_c7)) (Eq.refl (mL v_pile_c7))))))))))))))))))))))
        · refine tl_ite (jc_eq (Eq.refl (mI a3)) jlitI_1) ?_ ?_
          · refine tl_bd1 (t_pM_putOff (Eq.refl N) (Eq.refl (mI a2)) (Eq.refl (mL v_off_c7))) (fun rc8 => ?_)
            exact (tl_some (jp2 (Eq.refl (mJ rc8)) (jp2 (Eq.refl (mJ v_allowed_c7)) (jp2 (Eq.refl (mJ v_debt_c7)) (jp2 (Eq.refl (mJ v_farms_c7)) (jp2 (Eq.refl (mI v_isBlanchedNow_c7)) (jp2 (Eq.refl (mI v_knownAt_c6)) (jp2 (Eq.refl (mI v_movedAct_c6)) (jp2 (Eq.refl (mI v_now_c7)) (jp2 (Eq.refl (mJ v_paid_c7)) (jp2 (Eq.refl (mJ v_paidTold_c7)) (jp2 (Eq.refl (mJ v_pardoned_c7)) (jp2 (Eq.refl (mI v_piled_c7)) (jp2 (Eq.refl (mI v_shireNow_c7)) (jp2 (Eq.refl (mI v_without_c6)) (jp2 (Eq.refl (mA v_best_c4)) (jp2 (Eq.refl (mA v_cost_c4)) (jp2 (Eq.refl (mA v_fits_c4)) (jp2 (Eq.refl (mA v_mates_c4)) (jp2 (Eq.refl (mL v_off_c7)) (Eq.refl (mL v_pile_c7))))))))))))))))))))))
          · refine tl_ite (jc_eq (Eq.refl (mI a3)) jlitI_2) ?_ ?_
            · exact (tl_some (jp2 (Eq.refl (mJ v_farms_c7)) (jp2 (Eq.refl (mJ v_allowed_c7)) (jp2 (Eq.refl (mJ v_debt_c7)) (jp2 (Eq.refl (mJ v_farms_c7)) (jp2 (Eq.refl (mI v_isBlanchedNow_c7)) (jp2 (Eq.refl (mI v_knownAt_c6)) (jp2 (Eq.refl (mI v_movedAct_c6)) (jp2 (Eq.refl (mI v_now_c7)) (jp2 (Eq.refl (mJ v_paid_c7)) (jp2 (Eq.refl (mJ v_paidTold_c7)) (jp2 (Eq.refl (mJ v_pardoned_c7)) (jp2 (Eq.refl (mI v_piled_c7)) (jp2 (Eq.refl (mI v_shireNow_c7)) (jp2 (Eq.refl (mI v_without_c6)) (jp2 (Eq.refl (mA v_best_c4)) (jp2 (Eq.refl (mA v_cost_c4)) (jp2 (Eq.refl (mA v_fits_c4)) (jp2 (Eq.refl (mA v_mates_c4)) (jp2 (Eq.refl (mL v_off_c7)) (Eq.refl (mL v_pile_c7))))))))))))))))))))))
            · refine tl_ite (jc_eq (Eq.refl (mI a3)) jlitI_3) ?_ ?_
              · exact (tl_some (jp2 (Eq.refl (mJ v_allowed_c7)) (jp2 (Eq.refl (mJ v_allowed_c7)) (jp2 (Eq.refl (mJ v_debt_c7)) (jp2 (Eq.refl (mJ v_farms_c7)) (jp2 (Eq.refl (mI v_isBlanchedNow_c7)) (jp2 (Eq.refl (mI v_knownAt_c6)) (jp2 (Eq.refl (mI v_movedAct_c6)) (jp2 (Eq.refl (mI v_now_c7)) (jp2 (Eq.refl (mJ v_paid_c7)) (jp2 (Eq.refl (mJ v_paidTold_c7)) (jp2 (Eq.refl (mJ v_pardoned_c7)) (jp2 (Eq.refl (mI v_piled_c7)) (jp2 (Eq.refl (mI v_shireNow_c7)) (jp2 (Eq.refl (mI v_without_c6)) (jp2 (Eq.refl (mA v_best_c4)) (jp2 (Eq.refl (mA v_cost_c4)) (jp2 (Eq.refl (mA v_fits_c4)) (jp2 (Eq.refl (mA v_mates_c4)) (jp2 (Eq.refl (mL v_off_c7)) (Eq.refl (mL v_pile_c7))))))))))))))))))))))
              · refine tl_ite (jc_eq (Eq.refl (mI a3)) jlitI_4) ?_ ?_
                · exact (tl_some (jp2 (Eq.refl (mJ v_pardoned_c7)) (jp2 (Eq.refl (mJ v_allowed_c7)) (jp2 (Eq.refl (mJ v_debt_c7)) (jp2 (Eq.refl (mJ v_farms_c7)) (jp2 (Eq.refl (mI v_isBlanchedNow_c7)) (jp2 (Eq.refl (mI v_knownAt_c6)) (jp2 (Eq.refl (mI v_movedAct_c6)) (jp2 (Eq.refl (mI v_now_c7)) (jp2 (Eq.refl (mJ v_paid_c7)) (jp2 (Eq.refl (mJ v_paidTold_c7)) (jp2 (Eq.refl (mJ v_pardoned_c7)) (jp2 (Eq.refl (mI v_piled_c7)) (jp2 (Eq.refl (mI v_shireNow_c7)) (jp2 (Eq.refl (mI v_without_c6)) (jp2 (Eq.refl (mA v_best_c4)) (jp2 (Eq.refl (mA v_cost_c4)) (jp2 (Eq.refl (mA v_fits_c4)) (jp2 (Eq.refl (mA v_mates_c4)) (jp2 (Eq.refl (mL v_off_c7)) (Eq.refl (mL v_pile_c7))))))))))))))))))))))
                · refine tl_ite (jc_eq (Eq.refl (mI a3)) jlitI_5) ?_ ?_
                  · exact (tl_some (jp2 (Eq.refl (mJ v_paidTold_c7)) (jp2 (Eq.refl (mJ v_allowed_c7)) (jp2 (Eq.refl (mJ v_debt_c7)) (jp2 (Eq.refl (mJ v_farms_c7)) (jp2 (Eq.refl (mI v_isBlanchedNow_c7)) (jp2 (Eq.refl (mI v_knownAt_c6)) (jp2 (Eq.refl (mI v_movedAct_c6)) (jp2 (Eq.refl (mI v_now_c7)) (jp2 (Eq.refl (mJ v_paid_c7)) (jp2 (Eq.refl (mJ v_paidTold_c7)) (jp2 (Eq.refl (mJ v_pardoned_c7)) (jp2 (Eq.refl (mI v_piled_c7)) (jp2 (Eq.refl (mI v_shireNow_c7)) (jp2 (Eq.refl (mI v_without_c6)) (jp2 (Eq.refl (mA v_best_c4)) (jp2 (Eq.refl (mA v_cost_c4)) (jp2 (Eq.refl (mA v_fits_c4)) (jp2 (Eq.refl (mA v_mates_c4)) (jp2 (Eq.refl (mL v_off_c7)) (Eq.refl (mL v_pile_c7))))))))))))))))))))))
                  · refine tl_ite (jk_gt (Eq.refl (mJ rc7)) jlitJ_0) ?_ ?_
                    · exact (tl_some (jp2 jlitJ_0 (jp2 (Eq.refl (mJ v_allowed_c7)) (jp2 (Eq.refl (mJ v_debt_c7)) (jp2 (Eq.refl (mJ v_farms_c7)) (jp2 (Eq.refl (mI v_isBlanchedNow_c7)) (jp2 (Eq.refl (mI v_knownAt_c6)) (jp2 (Eq.refl (mI v_movedAct_c6)) (jp2 (Eq.refl (mI v_now_c7)) (jp2 (Eq.refl (mJ v_paid_c7)) (jp2 (Eq.refl (mJ v_paidTold_c7)) (jp2 (Eq.refl (mJ v_pardoned_c7)) (jp2 (Eq.refl (mI v_piled_c7)) (jp2 (Eq.refl (mI v_shireNow_c7)) (jp2 (Eq.refl (mI v_without_c6)) (jp2 (Eq.refl (mA v_best_c4)) (jp2 (Eq.refl (mA v_cost_c4)) (jp2 (Eq.refl (mA v_fits_c4)) (jp2 (Eq.refl (mA v_mates_c4)) (jp2 (Eq.refl (mL v_off_c7)) (Eq.refl (mL v_pile_c7))))))))))))))))))))))
                    · refine tl_bd1 (t_pM_putOff (Eq.refl N) (Eq.refl (mI a2)) (Eq.refl (mL v_off_c7))) (fun rc9 => ?_)
                      refine tl_ite (jk_eq (Eq.refl (mJ rc9)) jlitJ_0) ?_ ?_
                      · exact (tl_some (jp2 jlitJ_1 (jp2 (Eq.refl (mJ v_allowed_c7)) (jp2 (Eq.refl (mJ v_debt_c7)) (jp2 (Eq.refl (mJ v_farms_c7)) (jp2 (Eq.refl (mI v_isBlanchedNow_c7)) (jp2 (Eq.refl (mI v_knownAt_c6)) (jp2 (Eq.refl (mI v_movedAct_c6)) (jp2 (Eq.refl (mI v_now_c7)) (jp2 (Eq.refl (mJ v_paid_c7)) (jp2 (Eq.refl (mJ v_paidTold_c7)) (jp2 (Eq.refl (mJ v_pardoned_c7)) (jp2 (Eq.refl (mI v_piled_c7)) (jp2 (Eq.refl (mI v_shireNow_c7)) (jp2 (Eq.refl (mI v_without_c6)) (jp2 (Eq.refl (mA v_best_c4)) (jp2 (Eq.refl (mA v_cost_c4)) (jp2 (Eq.refl (mA v_fits_c4)) (jp2 (Eq.refl (mA v_mates_c4)) (jp2 (Eq.refl (mL v_off_c7)) (Eq.refl (mL v_pile_c7))))))))))))))))))))))
                      · exact (tl_some (jp2 jlitJ_0 (jp2 (Eq.refl (mJ v_allowed_c7)) (jp2 (Eq.refl (mJ v_debt_c7)) (jp2 (Eq.refl (mJ v_farms_c7)) (jp2 (Eq.refl (mI v_isBlanchedNow_c7)) (jp2 (Eq.refl (mI v_knownAt_c6)) (jp2 (Eq.refl (mI v_movedAct_c6)) (jp2 (Eq.refl (mI v_now_c7)) (jp2 (Eq.refl (mJ v_paid_c7)) (jp2 (Eq.refl (mJ v_paidTold_c7)) (jp2 (Eq.refl (mJ v_pardoned_c7)) (jp2 (Eq.refl (mI v_piled_c7)) (jp2 (Eq.refl (mI v_shireNow_c7)) (jp2 (Eq.refl (mI v_without_c6)) (jp2 (Eq.refl (mA v_best_c4)) (jp2 (Eq.refl (mA v_cost_c4)) (jp2 (Eq.refl (mA v_fits_c4)) (jp2 (Eq.refl (mA v_mates_c4)) (jp2 (Eq.refl (mL v_off_c7)) (Eq.refl (mL v_pile_c7))))))))))))))))))))))
theorem t_pM_owed_b28_F {N N_j : Nat} (t_N : N = N_j) {a1 : Int32} {a1_j : Int} (t_a1 : mI a1 = a1_j) {v_acts : Int32} {v_acts_j : Int} (t_v_acts : mI v_acts = v_acts_j) {v_as : Int32} {v_as_j : Int} (t_v_as : mI v_as = v_as_j) {v_grain : Int32} {v_grain_j : Int} (t_v_grain : mI v_grain = v_grain_j) {v_limit : Int32} {v_limit_j : Int} (t_v_limit : mI v_limit = v_limit_j) {v_lost : Int32} {v_lost_j : Int} (t_v_lost : mI v_lost = v_lost_j) {v_movedTerm : Int32} {v_movedTerm_j : Int} (t_v_movedTerm : mI v_movedTerm = v_movedTerm_j) {v_actKind : (Nat → Int32)} {v_actKind_j : (Nat → Int)} (t_v_actKind : mA v_actKind = v_actKind_j) {v_actNumber : (Nat → Int32)} {v_actNumber_j : (Nat → Int)} (t_v_actNumber : mA v_actNumber = v_actNumber_j) {v_actShire : (Nat → Int32)} {v_actShire_j : (Nat → Int)} (t_v_actShire : mA v_actShire = v_actShire_j) {v_actTerm : (Nat → Int32)} {v_actTerm_j : (Nat → Int)} (t_v_actTerm : mA v_actTerm = v_actTerm_j) {v_codes : (Nat → Int32)} {v_codes_j : (Nat → Int)} (t_v_codes : mA v_codes = v_codes_j) {v_cutAt : (Nat → Int32)} {v_cutAt_j : (Nat → Int)} (t_v_cutAt : mA v_cutAt = v_cutAt_j) {v_cutWorth : (Nat → Int32)} {v_cutWorth_j : (Nat → Int)} (t_v_cutWorth : mA v_cutWorth = v_cutWorth_j) {v_cuts : (Nat → Int32)} {v_cuts_j : (Nat → Int)} (t_v_cuts : mA v_cuts = v_cuts_j) {v_first : (Nat → Int32)} {v_first_j : (Nat → Int)} (t_v_first : mA v_first = v_first_j) {v_isBlanched : (Nat → Int32)} {v_isBlanched_j : (Nat → Int)} (t_v_isBlanched : mA v_isBlanched = v_isBlanched_j) {v_many : (Nat → Int32)} {v_many_j : (Nat → Int)} (t_v_many : mA v_many = v_many_j) {v_pence : (Nat → Int32)} {v_pence_j : (Nat → Int)} (t_v_pence : mA v_pence = v_pence_j) {v_second : (Nat → Int32)} {v_second_j : (Nat → Int)} (t_v_second : mA v_second = v_second_j) {v_sort : (Nat → Int32)} {v_sort_j : (Nat → Int)} (t_v_sort : mA v_sort = v_sort_j) {v_sumEnd : (Nat → Int32)} {v_sumEnd_j : (Nat → Int)} (t_v_sumEnd : mA v_sumEnd = v_sumEnd_j) {v_sumFrom : (Nat → Int32)} {v_sumFrom_j : (Nat → Int)} (t_v_sumFrom : mA v_sumFrom = v_sumFrom_j) {v_testEnd : (Nat → Int32)} {v_testEnd_j : (Nat → Int)} (t_v_testEnd : mA v_testEnd = v_testEnd_j) {v_voidAt : (Nat → Int32)} {v_voidAt_j : (Nat → Int)} (t_v_voidAt : mA v_voidAt = v_voidAt_j) {v_knownAt : Int32} {v_knownAt_j : Int} (t_v_knownAt : mI v_knownAt = v_knownAt_j) {v_movedAct : Int32} {v_movedAct_j : Int} (t_v_movedAct : mI v_movedAct = v_movedAct_j) {v_without : Int32} {v_without_j : Int} (t_v_without : mI v_without = v_without_j) {v_best : (Nat → Int32)} {v_best_j : (Nat → Int)} (t_v_best : mA v_best = v_best_j) {v_cost : (Nat → Int32)} {v_cost_j : (Nat → Int)} (t_v_cost : mA v_cost = v_cost_j) {v_fits : (Nat → Int32)} {v_fits_j : (Nat → Int)} (t_v_fits : mA v_fits = v_fits_j) {v_mates : (Nat → Int32)} {v_mates_j : (Nat → Int)} (t_v_mates : mA v_mates = v_mates_j) {self : Int64 → Int32 → Int64 → Int64 → Int64 → Int32 → Int32 → Int64 → Int64 → Int64 → Int32 → Int32 → (Nat → Int64) → (Nat → Int64) → Option R_pM_owed} {self_j : Int → Int → Int → Int → Int → Int → Int → Int → Int → Int → Int → Int → (Nat → Int) → (Nat → Int) → Option R_iM_owed} (t_self : ∀ (q0_ : Int64) (q1_ : Int32) (q2_ : Int64) (q3_ : Int64) (q4_ : Int64) (q5_ : Int32) (q6_ : Int32) (q7_ : Int64) (q8_ : Int64) (q9_ : Int64) (q10_ : Int32) (q11_ : Int32) (q12_ : (Nat → Int64)) (q13_ : (Nat → Int64)), tl (mP mJ (mP mJ (mP mJ (mP mJ (mP mI (mP mI (mP mI (mP mI (mP mJ (mP mJ (mP mJ (mP mI (mP mI (mP mI (mP mA (mP mA (mP mA (mP mA (mP mL mL))))))))))))))))))) (self_j (mJ q0_) (mI q1_) (mJ q2_) (mJ q3_) (mJ q4_) (mI q5_) (mI q6_) (mJ q7_) (mJ q8_) (mJ q9_) (mI q10_) (mI q11_) (mL q12_) (mL q13_)) (self q0_ q1_ q2_ q3_ q4_ q5_ q6_ q7_ q8_ q9_ q10_ q11_ q12_ q13_)) {x2 : Int64} {x2_j : Int} (t_x2 : mJ x2 = x2_j) {x4 : Int32} {x4_j : Int} (t_x4 : mI x4 = x4_j) {v_allowed : Int64} {v_allowed_j : Int} (t_v_allowed : mJ v_allowed = v_allowed_j) {v_debt : Int64} {v_debt_j : Int} (t_v_debt : mJ v_debt = v_debt_j) {v_farms : Int64} {v_farms_j : Int} (t_v_farms : mJ v_farms = v_farms_j) {v_isBlanchedNow : Int32} {v_isBlanchedNow_j : Int} (t_v_isBlanchedNow : mI v_isBlanchedNow = v_isBlanchedNow_j) {v_now : Int32} {v_now_j : Int} (t_v_now : mI v_now = v_now_j) {v_paid : Int64} {v_paid_j : Int} (t_v_paid : mJ v_paid = v_paid_j) {v_paidTold : Int64} {v_paidTold_j : Int} (t_v_paidTold : mJ v_paidTold = v_paidTold_j) {v_pardoned : Int64} {v_pardoned_j : Int} (t_v_pardoned : mJ v_pardoned = v_pardoned_j) {v_piled : Int32} {v_piled_j : Int} (t_v_piled : mI v_piled = v_piled_j) {v_shireNow : Int32} {v_shireNow_j : Int} (t_v_shireNow : mI v_shireNow = v_shireNow_j) {v_off : (Nat → Int64)} {v_off_j : (Nat → Int)} (t_v_off : mL v_off = v_off_j) {v_pile : (Nat → Int64)} {v_pile_j : (Nat → Int)} (t_v_pile : mL v_pile = v_pile_j) : tl (mP mJ (mP mJ (mP mJ (mP mJ (mP mI (mP mI (mP mI (mP mI (mP mJ (mP mJ (mP mJ (mP mI (mP mI (mP mI (mP mA (mP mA (mP mA (mP mA (mP mL mL))))))))))))))))))) (iM_owed_b28_F N_j a1_j v_acts_j v_as_j v_grain_j v_limit_j v_lost_j v_movedTerm_j v_actKind_j v_actNumber_j v_actShire_j v_actTerm_j v_codes_j v_cutAt_j v_cutWorth_j v_cuts_j v_first_j v_isBlanched_j v_many_j v_pence_j v_second_j v_sort_j v_sumEnd_j v_sumFrom_j v_testEnd_j v_voidAt_j v_knownAt_j v_movedAct_j v_without_j v_best_j v_cost_j v_fits_j v_mates_j self_j x2_j x4_j v_allowed_j v_debt_j v_farms_j v_isBlanchedNow_j v_now_j v_paid_j v_paidTold_j v_pardoned_j v_piled_j v_shireNow_j v_off_j v_pile_j) (pM_owed_b28_F N a1 v_acts v_as v_grain v_limit v_lost v_movedTerm v_actKind v_actNumber v_actShire v_actTerm v_codes v_cutAt v_cutWorth v_cuts v_first v_isBlanched v_many v_pence v_second v_sort v_sumEnd v_sumFrom v_testEnd v_voidAt v_knownAt v_movedAct v_without v_best v_cost v_fits v_mates self x2 x4 v_allowed v_debt v_farms v_isBlanchedNow v_now v_paid v_paidTold v_pardoned v_piled v_shireNow v_off v_pile) := by
  subst t_N
  subst t_a1
  subst t_v_acts
  subst t_v_as
  subst t_v_grain
  subst t_v_limit
  subst t_v_lost
  subst t_v_movedTerm
  subst t_v_actKind
  subst t_v_actNumber
  subst t_v_actShire
  subst t_v_actTerm
  subst t_v_codes
  subst t_v_cutAt
  subst t_v_cutWorth
  subst t_v_cuts
  subst t_v_first
  subst t_v_isBlanched
  subst t_v_many
  subst t_v_pence
  subst t_v_second
  subst t_v_sort
  subst t_v_sumEnd
  subst t_v_sumFrom
  subst t_v_testEnd
  subst t_v_voidAt
  subst t_v_knownAt
  subst t_v_movedAct
  subst t_v_without
  subst t_v_best
  subst t_v_cost
  subst t_v_fits
  subst t_v_mates
  subst t_x2
  subst t_x4
  subst t_v_allowed
  subst t_v_debt
  subst t_v_farms
  subst t_v_isBlanchedNow
  subst t_v_now
  subst t_v_paid
  subst t_v_paidTold
  subst t_v_pardoned
  subst t_v_piled
  subst t_v_shireNow
  subst t_v_off
  subst t_v_pile
  unfold iM_owed_b28_F pM_owed_b28_F
  refine tl_ite (jc_le jlitI_8 (Eq.refl (mI x4))) ?_ ?_
  · exact (tl_some (jp2 (Eq.refl (mJ x2)) (jp2 (Eq.refl (mJ v_allowed)) (jp2 (Eq.refl (mJ v_debt)) (jp2 (Eq.refl (mJ v_farms)) (jp2 (Eq.refl (mI v_isBlanchedNow)) (jp2 (Eq.refl (mI v_knownAt)) (jp2 (Eq.refl (mI v_movedAct)) (jp2 (Eq.refl (mI v_now)) (jp2 (Eq.refl (mJ v_paid)) (jp2 (Eq.refl (mJ v_paidTold)) (jp2 (Eq.refl (mJ v_pardoned)) (jp2 (Eq.refl (mI v_piled)) (jp2 (Eq.refl (mI v_shireNow)) (jp2 (Eq.refl (mI v_without)) (jp2 (Eq.refl (mA v_best)) (jp2 (Eq.refl (mA v_cost)) (jp2 (Eq.refl (mA v_fits)) (jp2 (Eq.refl (mA v_mates)) (jp2 (Eq.refl (mL v_off)) (Eq.refl (mL v_pile))))))))))))))))))))))
  · refine tl_bd13 (t_pM_rolls (Eq.refl N) (Eq.refl (mI x4)) (Eq.refl (mI a1)) (Eq.refl (mI v_acts)) (Eq.refl (mJ v_allowed)) (Eq.refl (mJ v_debt)) (Eq.refl (mJ v_farms)) (Eq.refl (mI v_isBlanchedNow)) (Eq.refl (mI v_knownAt)) (Eq.refl (mI v_movedAct)) (Eq.refl (mI v_movedTerm)) (Eq.refl (mI v_now)) (Eq.refl (mJ v_paid)) (Eq.refl (mJ v_paidTold)) (Eq.refl (mJ v_pardoned)) (Eq.refl (mI v_piled)) (Eq.refl (mI v_shireNow)) (Eq.refl (mI v_without)) (Eq.refl (mA v_actKind)) (Eq.refl (mA v_actNumber)) (Eq.refl (mA v_actShire)) (Eq.refl (mA v_actTerm)) (Eq.refl (mA v_codes)) (Eq.refl (mA v_cutWorth)) (Eq.refl (mA v_cuts)) (Eq.refl (mA v_first)) (Eq.refl (mA v_isBlanched)) (Eq.refl (mA v_many)) (Eq.refl (mA v_mates)) (Eq.refl (mL v_off)) (Eq.refl (mA v_pence)) (Eq.refl (mL v_pile)) (Eq.refl (mA v_second)) (Eq.refl (mA v_sort)) (Eq.refl (mA v_sumEnd)) (Eq.refl (mA v_sumFrom)) (Eq.refl (mA v_testEnd)) (Eq.refl (mA v_voidAt))) (fun rc5 v_allowed_c5 v_debt_c5 v_farms_c5 v_isBlanchedNow_c5 v_now_c5 v_paid_c5 v_paidTold_c5 v_pardoned_c5 v_piled_c5 v_shireNow_c5 v_off_c5 v_pile_c5 => ?_)
    refine tl_ite (jk_le (Eq.refl (mJ rc5)) jlitJ_0) ?_ ?_
    · refine tl_g (fun h1 => ?_)
      exact (tl_e14 (Eq.refl (mJ x2)) (ja_add (Eq.refl (mI x4)) jlitI_1 h1) (Eq.refl (mJ v_allowed_c5)) (Eq.refl (mJ v_debt_c5)) (Eq.refl (mJ v_farms_c5)) (Eq.refl (mI v_isBlanchedNow_c5)) (Eq.refl (mI v_now_c5)) (Eq.refl (mJ v_paid_c5)) (Eq.refl (mJ v_paidTold_c5)) (Eq.refl (mJ v_pardoned_c5)) (Eq.refl (mI v_piled_c5)) (Eq.refl (mI v_shireNow_c5)) (Eq.refl (mL v_off_c5)) (Eq.refl (mL v_pile_c5)) (t_self _ _ _ _ _ _ _ _ _ _ _ _ _ _))
    · refine tl_g (fun h2 => ?_)
      refine tl_g (fun h3 => ?_)
      exact (tl_e14 (jL_add (Eq.refl (mJ x2)) (Eq.refl (mJ rc5)) h2) (ja_add (Eq.refl (mI x4)) jlitI_1 h3) (Eq.refl (mJ v_allowed_c5)) (Eq.refl (mJ v_debt_c5)) (Eq.refl (mJ v_farms_c5)) (Eq.refl (mI v_isBlanchedNow_c5)) (Eq.refl (mI v_now_c5)) (Eq.refl (mJ v_paid_c5)) (Eq.refl (mJ v_paidTold_c5)) (Eq.refl (mJ v_pardoned_c5)) (Eq.refl (mI v_piled_c5)) (Eq.refl (mI v_shireNow_c5)) (Eq.refl (mL v_off_c5)) (Eq.refl (mL v_pile_c5)) (t_self _ _ _ _ _ _ _ _ _ _ _ _ _ _))
theorem t_pM_owed_b28 {N N_j : Nat} (t_N : N = N_j) {a1 : Int32} {a1_j : Int} (t_a1 : mI a1 = a1_j) {v_acts : Int32} {v_acts_j : Int} (t_v_acts : mI v_acts = v_acts_j) {v_as : Int32} {v_as_j : Int} (t_v_as : mI v_as = v_as_j) {v_grain : Int32} {v_grain_j : Int} (t_v_grain : mI v_grain = v_grain_j) {v_limit : Int32} {v_limit_j : Int} (t_v_limit : mI v_limit = v_limit_j) {v_lost : Int32} {v_lost_j : Int} (t_v_lost : mI v_lost = v_lost_j) {v_movedTerm : Int32} {v_movedTerm_j : Int} (t_v_movedTerm : mI v_movedTerm = v_movedTerm_j) {v_actKind : (Nat → Int32)} {v_actKind_j : (Nat → Int)} (t_v_actKind : mA v_actKind = v_actKind_j) {v_actNumber : (Nat → Int32)} {v_actNumber_j : (Nat → Int)} (t_v_actNumber : mA v_actNumber = v_actNumber_j) {v_actShire : (Nat → Int32)} {v_actShire_j : (Nat → Int)} (t_v_actShire : mA v_actShire = v_actShire_j) {v_actTerm : (Nat → Int32)} {v_actTerm_j : (Nat → Int)} (t_v_actTerm : mA v_actTerm = v_actTerm_j) {v_codes : (Nat → Int32)} {v_codes_j : (Nat → Int)} (t_v_codes : mA v_codes = v_codes_j) {v_cutAt : (Nat → Int32)} {v_cutAt_j : (Nat → Int)} (t_v_cutAt : mA v_cutAt = v_cutAt_j) {v_cutWorth : (Nat → Int32)} {v_cutWorth_j : (Nat → Int)} (t_v_cutWorth : mA v_cutWorth = v_cutWorth_j) {v_cuts : (Nat → Int32)} {v_cuts_j : (Nat → Int)} (t_v_cuts : mA v_cuts = v_cuts_j) {v_first : (Nat → Int32)} {v_first_j : (Nat → Int)} (t_v_first : mA v_first = v_first_j) {v_isBlanched : (Nat → Int32)} {v_isBlanched_j : (Nat → Int)} (t_v_isBlanched : mA v_isBlanched = v_isBlanched_j) {v_many : (Nat → Int32)} {v_many_j : (Nat → Int)} (t_v_many : mA v_many = v_many_j) {v_pence : (Nat → Int32)} {v_pence_j : (Nat → Int)} (t_v_pence : mA v_pence = v_pence_j) {v_second : (Nat → Int32)} {v_second_j : (Nat → Int)} (t_v_second : mA v_second = v_second_j) {v_sort : (Nat → Int32)} {v_sort_j : (Nat → Int)} (t_v_sort : mA v_sort = v_sort_j) {v_sumEnd : (Nat → Int32)} {v_sumEnd_j : (Nat → Int)} (t_v_sumEnd : mA v_sumEnd = v_sumEnd_j) {v_sumFrom : (Nat → Int32)} {v_sumFrom_j : (Nat → Int)} (t_v_sumFrom : mA v_sumFrom = v_sumFrom_j) {v_testEnd : (Nat → Int32)} {v_testEnd_j : (Nat → Int)} (t_v_testEnd : mA v_testEnd = v_testEnd_j) {v_voidAt : (Nat → Int32)} {v_voidAt_j : (Nat → Int)} (t_v_voidAt : mA v_voidAt = v_voidAt_j) {v_knownAt : Int32} {v_knownAt_j : Int} (t_v_knownAt : mI v_knownAt = v_knownAt_j) {v_movedAct : Int32} {v_movedAct_j : Int} (t_v_movedAct : mI v_movedAct = v_movedAct_j) {v_without : Int32} {v_without_j : Int} (t_v_without : mI v_without = v_without_j) {v_best : (Nat → Int32)} {v_best_j : (Nat → Int)} (t_v_best : mA v_best = v_best_j) {v_cost : (Nat → Int32)} {v_cost_j : (Nat → Int)} (t_v_cost : mA v_cost = v_cost_j) {v_fits : (Nat → Int32)} {v_fits_j : (Nat → Int)} (t_v_fits : mA v_fits = v_fits_j) {v_mates : (Nat → Int32)} {v_mates_j : (Nat → Int)} (t_v_mates : mA v_mates = v_mates_j) {n n_j : Nat} (t_n : n = n_j) {w0_ : Int64} {w0__j : Int} (t_w0_ : mJ w0_ = w0__j) {w1_ : Int32} {w1__j : Int} (t_w1_ : mI w1_ = w1__j) {w2_ : Int64} {w2__j : Int} (t_w2_ : mJ w2_ = w2__j) {w3_ : Int64} {w3__j : Int} (t_w3_ : mJ w3_ = w3__j) {w4_ : Int64} {w4__j : Int} (t_w4_ : mJ w4_ = w4__j) {w5_ : Int32} {w5__j : Int} (t_w5_ : mI w5_ = w5__j) {w6_ : Int32} {w6__j : Int} (t_w6_ : mI w6_ = w6__j) {w7_ : Int64} {w7__j : Int} (t_w7_ : mJ w7_ = w7__j) {w8_ : Int64} {w8__j : Int} (t_w8_ : mJ w8_ = w8__j) {w9_ : Int64} {w9__j : Int} (t_w9_ : mJ w9_ = w9__j) {w10_ : Int32} {w10__j : Int} (t_w10_ : mI w10_ = w10__j) {w11_ : Int32} {w11__j : Int} (t_w11_ : mI w11_ = w11__j) {w12_ : (Nat → Int64)} {w12__j : (Nat → Int)} (t_w12_ : mL w12_ = w12__j) {w13_ : (Nat → Int64)} {w13__j : (Nat → Int)} (t_w13_ : mL w13_ = w13__j) : tl (mP mJ (mP mJ (mP mJ (mP mJ (mP mI (mP mI (mP mI (mP mI (mP mJ (mP mJ (mP mJ (mP mI (mP mI (mP mI (mP mA (mP mA (mP mA (mP mA (mP mL mL))))))))))))))))))) (iM_owed_b28 N_j a1_j v_acts_j v_as_j v_grain_j v_limit_j v_lost_j v_movedTerm_j v_actKind_j v_actNumber_j v_actShire_j v_actTerm_j v_codes_j v_cutAt_j v_cutWorth_j v_cuts_j v_first_j v_isBlanched_j v_many_j v_pence_j v_second_j v_sort_j v_sumEnd_j v_sumFrom_j v_testEnd_j v_voidAt_j v_knownAt_j v_movedAct_j v_without_j v_best_j v_cost_j v_fits_j v_mates_j n_j w0__j w1__j w2__j w3__j w4__j w5__j w6__j w7__j w8__j w9__j w10__j w11__j w12__j w13__j) (pM_owed_b28 N a1 v_acts v_as v_grain v_limit v_lost v_movedTerm v_actKind v_actNumber v_actShire v_actTerm v_codes v_cutAt v_cutWorth v_cuts v_first v_isBlanched v_many v_pence v_second v_sort v_sumEnd v_sumFrom v_testEnd v_voidAt v_knownAt v_movedAct v_without v_best v_cost v_fits v_mates n w0_ w1_ w2_ w3_ w4_ w5_ w6_ w7_ w8_ w9_ w10_ w11_ w12_ w13_) := by
  subst t_N
  subst t_a1
  subst t_v_acts
  subst t_v_as
  subst t_v_grain
  subst t_v_limit
  subst t_v_lost
  subst t_v_movedTerm
  subst t_v_actKind
  subst t_v_actNumber
  subst t_v_actShire
  subst t_v_actTerm
  subst t_v_codes
  subst t_v_cutAt
  subst t_v_cutWorth
  subst t_v_cuts
  subst t_v_first
  subst t_v_isBlanched
  subst t_v_many
  subst t_v_pence
  subst t_v_second
  subst t_v_sort
  subst t_v_sumEnd
  subst t_v_sumFrom
  subst t_v_testEnd
  subst t_v_voidAt
  subst t_v_knownAt
  subst t_v_movedAct
  subst t_v_without
  subst t_v_best
  subst t_v_cost
  subst t_v_fits
  subst t_v_mates
  subst t_n
  subst t_w0_
  subst t_w1_
  subst t_w2_
  subst t_w3_
  subst t_w4_
  subst t_w5_
  subst t_w6_
  subst t_w7_
  subst t_w8_
  subst t_w9_
  subst t_w10_
  subst t_w11_
  subst t_w12_
  subst t_w13_
  exact tl_zlp14 (fun s2 s hs w0_ w1_ w2_ w3_ w4_ w5_ w6_ w7_ w8_ w9_ w10_ w11_ w12_ w13_ => t_pM_owed_b28_F (Eq.refl N) (Eq.refl (mI a1)) (Eq.refl (mI v_acts)) (Eq.refl (mI v_as)) (Eq.refl (mI v_grain)) (Eq.refl (mI v_limit)) (Eq.refl (mI v_lost)) (Eq.refl (mI v_movedTerm)) (Eq.refl (mA v_actKind)) (Eq.refl (mA v_actNumber)) (Eq.refl (mA v_actShire)) (Eq.refl (mA v_actTerm)) (Eq.refl (mA v_codes)) (Eq.refl (mA v_cutAt)) (Eq.refl (mA v_cutWorth)) (Eq.refl (mA v_cuts)) (Eq.refl (mA v_first)) (Eq.refl (mA v_isBlanched)) (Eq.refl (mA v_many)) (Eq.refl (mA v_pence)) (Eq.refl (mA v_second)) (Eq.refl (mA v_sort)) (Eq.refl (mA v_sumEnd)) (Eq.refl (mA v_sumFrom)) (Eq.refl (mA v_testEnd)) (Eq.refl (mA v_voidAt)) (Eq.refl (mI v_knownAt)) (Eq.refl (mI v_movedAct)) (Eq.refl (mI v_without)) (Eq.refl (mA v_best)) (Eq.refl (mA v_cost)) (Eq.refl (mA v_fits)) (Eq.refl (mA v_mates)) hs (Eq.refl (mJ w0_)) (Eq.refl (mI w1_)) (Eq.refl (mJ w2_)) (Eq.refl (mJ w3_)) (Eq.refl (mJ w4_)) (Eq.refl (mI w5_)) (Eq.refl (mI w6_)) (Eq.refl (mJ w7_)) (Eq.refl (mJ w8_)) (Eq.refl (mJ w9_)) (Eq.refl (mI w10_)) (Eq.refl (mI w11_)) (Eq.refl (mL w12_)) (Eq.refl (mL w13_))) n w0_ w1_ w2_ w3_ w4_ w5_ w6_ w7_ w8_ w9_ w10_ w11_ w12_ w13_
theorem t_pM_owed {N N_j : Nat} (t_N : N = N_j) {a1 : Int32} {a1_j : Int} (t_a1 : mI a1 = a1_j) {v_acts : Int32} {v_acts_j : Int} (t_v_acts : mI v_acts = v_acts_j) {v_allowed : Int64} {v_allowed_j : Int} (t_v_allowed : mJ v_allowed = v_allowed_j) {v_as : Int32} {v_as_j : Int} (t_v_as : mI v_as = v_as_j) {v_debt : Int64} {v_debt_j : Int} (t_v_debt : mJ v_debt = v_debt_j) {v_farms : Int64} {v_farms_j : Int} (t_v_farms : mJ v_farms = v_farms_j) {v_grain : Int32} {v_grain_j : Int} (t_v_grain : mI v_grain = v_grain_j) {v_isBlanchedNow : Int32} {v_isBlanchedNow_j : Int} (t_v_isBlanchedNow : mI v_isBlanchedNow = v_isBlanchedNow_j) {v_knownAt : Int32} {v_knownAt_j : Int} (t_v_knownAt : mI v_knownAt = v_knownAt_j) {v_limit : Int32} {v_limit_j : Int} (t_v_limit : mI v_limit = v_limit_j) {v_lost : Int32} {v_lost_j : Int} (t_v_lost : mI v_lost = v_lost_j) {v_movedAct : Int32} {v_movedAct_j : Int} (t_v_movedAct : mI v_movedAct = v_movedAct_j) {v_movedTerm : Int32} {v_movedTerm_j : Int} (t_v_movedTerm : mI v_movedTerm = v_movedTerm_j) {v_now : Int32} {v_now_j : Int} (t_v_now : mI v_now = v_now_j) {v_paid : Int64} {v_paid_j : Int} (t_v_paid : mJ v_paid = v_paid_j) {v_paidTold : Int64} {v_paidTold_j : Int} (t_v_paidTold : mJ v_paidTold = v_paidTold_j) {v_pardoned : Int64} {v_pardoned_j : Int} (t_v_pardoned : mJ v_pardoned = v_pardoned_j) {v_piled : Int32} {v_piled_j : Int} (t_v_piled : mI v_piled = v_piled_j) {v_shireNow : Int32} {v_shireNow_j : Int} (t_v_shireNow : mI v_shireNow = v_shireNow_j) {v_without : Int32} {v_without_j : Int} (t_v_without : mI v_without = v_without_j) {v_actKind : (Nat → Int32)} {v_actKind_j : (Nat → Int)} (t_v_actKind : mA v_actKind = v_actKind_j) {v_actNumber : (Nat → Int32)} {v_actNumber_j : (Nat → Int)} (t_v_actNumber : mA v_actNumber = v_actNumber_j) {v_actShire : (Nat → Int32)} {v_actShire_j : (Nat → Int)} (t_v_actShire : mA v_actShire = v_actShire_j) {v_actTerm : (Nat → Int32)} {v_actTerm_j : (Nat → Int)} (t_v_actTerm : mA v_actTerm = v_actTerm_j) {v_best : (Nat → Int32)} {v_best_j : (Nat → Int)} (t_v_best : mA v_best = v_best_j) {v_codes : (Nat → Int32)} {v_codes_j : (Nat → Int)} (t_v_codes : mA v_codes = v_codes_j) {v_cost : (Nat → Int32)} {v_cost_j : (Nat → Int)} (t_v_cost : mA v_cost = v_cost_j) {v_cutAt : (Nat → Int32)} {v_cutAt_j : (Nat → Int)} (t_v_cutAt : mA v_cutAt = v_cutAt_j) {v_cutWorth : (Nat → Int32)} {v_cutWorth_j : (Nat → Int)} (t_v_cutWorth : mA v_cutWorth = v_cutWorth_j) {v_cuts : (Nat → Int32)} {v_cuts_j : (Nat → Int)} (t_v_cuts : mA v_cuts = v_cuts_j) {v_first : (Nat → Int32)} {v_first_j : (Nat → Int)} (t_v_first : mA v_first = v_first_j) {v_fits : (Nat → Int32)} {v_fits_j : (Nat → Int)} (t_v_fits : mA v_fits = v_fits_j) {v_isBlanched : (Nat → Int32)} {v_isBlanched_j : (Nat → Int)} (t_v_isBlanched : mA v_isBlanched = v_isBlanched_j) {v_many : (Nat → Int32)} {v_many_j : (Nat → Int)} (t_v_many : mA v_many = v_many_j) {v_mates : (Nat → Int32)} {v_mates_j : (Nat → Int)} (t_v_mates : mA v_mates = v_mates_j) {v_off : (Nat → Int64)} {v_off_j : (Nat → Int)} (t_v_off : mL v_off = v_off_j) {v_pence : (Nat → Int32)} {v_pence_j : (Nat → Int)} (t_v_pence : mA v_pence = v_pence_j) {v_pile : (Nat → Int64)} {v_pile_j : (Nat → Int)} (t_v_pile : mL v_pile = v_pile_j) {v_second : (Nat → Int32)} {v_second_j : (Nat → Int)} (t_v_second : mA v_second = v_second_j) {v_sort : (Nat → Int32)} {v_sort_j : (Nat → Int)} (t_v_sort : mA v_sort = v_sort_j) {v_sumEnd : (Nat → Int32)} {v_sumEnd_j : (Nat → Int)} (t_v_sumEnd : mA v_sumEnd = v_sumEnd_j) {v_sumFrom : (Nat → Int32)} {v_sumFrom_j : (Nat → Int)} (t_v_sumFrom : mA v_sumFrom = v_sumFrom_j) {v_testEnd : (Nat → Int32)} {v_testEnd_j : (Nat → Int)} (t_v_testEnd : mA v_testEnd = v_testEnd_j) {v_voidAt : (Nat → Int32)} {v_voidAt_j : (Nat → Int)} (t_v_voidAt : mA v_voidAt = v_voidAt_j) : tl (mP mJ (mP mJ (mP mJ (mP mJ (mP mI (mP mI (mP mI (mP mI (mP mJ (mP mJ (mP mJ (mP mI (mP mI (mP mI (mP mA (mP mA (mP mA (mP mA (mP mL mL))))))))))))))))))) (iM_owed N_j a1_j v_acts_j v_allowed_j v_as_j v_debt_j v_farms_j v_grain_j v_isBlanchedNow_j v_knownAt_j v_limit_j v_lost_j v_movedAct_j v_movedTerm_j v_now_j v_paid_j v_paidTold_j v_pardoned_j v_piled_j v_shireNow_j v_without_j v_actKind_j v_actNumber_j v_actShire_j v_actTerm_j v_best_j v_codes_j v_cost_j v_cutAt_j v_cutWorth_j v_cuts_j v_first_j v_fits_j v_isBlanched_j v_many_j v_mates_j v_off_j v_pence_j v_pile_j v_second_j v_sort_j v_sumEnd_j v_sumFrom_j v_testEnd_j v_voidAt_j) (pM_owed N a1 v_acts v_allowed v_as v_debt v_farms v_grain v_isBlanchedNow v_knownAt v_limit v_lost v_movedAct v_movedTerm v_now v_paid v_paidTold v_pardoned v_piled v_shireNow v_without v_actKind v_actNumber v_actShire v_actTerm v_best v_codes v_cost v_cutAt v_cutWorth v_cuts v_first v_fits v_isBlanched v_many v_mates v_off v_pence v_pile v_second v_sort v_sumEnd v_sumFrom v_testEnd v_voidAt) := by
  subst t_N
  subst t_a1
  subst t_v_acts
  subst t_v_allowed
  subst t_v_as
  subst t_v_debt
  subst t_v_farms
  subst t_v_grain
  subst t_v_isBlanchedNow
  subst t_v_knownAt
  subst t_v_limit
  subst t_v_lost
  subst t_v_movedAct
  subst t_v_movedTerm
  subst t_v_now
  subst t_v_paid
  subst t_v_paidTold
  subst t_v_pardoned
  subst t_v_piled
  subst t_v_shireNow
  subst t_v_without
  subst t_v_actKind
  subst t_v_actNumber
  subst t_v_actShire
  subst t_v_actTerm
  subst t_v_best
  subst t_v_codes
  subst t_v_cost
  subst t_v_cutAt
  subst t_v_cutWorth
  subst t_v_cuts
  subst t_v_first
  subst t_v_fits
  subst t_v_isBlanched
  subst t_v_many
  subst t_v_mates
  subst t_v_off
  subst t_v_pence
  subst t_v_pile
  subst t_v_second
  subst t_v_sort
  subst t_v_sumEnd
  subst t_v_sumFrom
  subst t_v_testEnd
  subst t_v_voidAt
  unfold iM_owed pM_owed
  refine tl_bd1 (t_pM_isTerm (Eq.refl (mI a1))) (fun rc1 => ?_)
  refine tl_ite (jc_eq (Eq.refl (mI rc1)) jlitI_0) ?_ ?_
  · exact (tl_some (jp2 jlitJ_m1 (jp2 (Eq.refl (mJ v_allowed)) (jp2 (Eq.refl (mJ v_debt)) (jp2 (Eq.refl (mJ v_farms)) (jp2 (Eq.refl (mI v_isBlanchedNow)) (jp2 (Eq.refl (mI v_knownAt)) (jp2 (Eq.refl (mI v_movedAct)) (jp2 (Eq.refl (mI v_now)) (jp2 (Eq.refl (mJ v_paid)) (jp2 (Eq.refl (mJ v_paidTold)) (jp2 (Eq.refl (mJ v_pardoned)) (jp2 (Eq.refl (mI v_piled)) (jp2 (Eq.refl (mI v_shireNow)) (jp2 (Eq.refl (mI v_without)) (jp2 (Eq.refl (mA v_best)) (jp2 (Eq.refl (mA v_cost)) (jp2 (Eq.refl (mA v_fits)) (jp2 (Eq.refl (mA v_mates)) (jp2 (Eq.refl (mL v_off)) (Eq.refl (mL v_pile))))))))))))))))))))))
  · refine tl_bd4 (t_pM_matches (Eq.refl N) (Eq.refl (mI v_grain)) (Eq.refl (mI v_limit)) (Eq.refl (mI v_lost)) (Eq.refl (mA v_best)) (Eq.refl (mA v_cost)) (Eq.refl (mA v_cutAt)) (Eq.refl (mA v_cutWorth)) (Eq.refl (mA v_cuts)) (Eq.refl (mA v_fits)) (Eq.refl (mA v_mates))) (fun v_best_c2 v_cost_c2 v_fits_c2 v_mates_c2 => ?_)
    refine tl_bd1 (t_pM_asNow (Eq.refl (mI v_acts)) (Eq.refl (mI v_as))) (fun rc3 => ?_)
    refine tl_bd3 (t_pM_tellsAsKnown (Eq.refl (mI rc3)) (Eq.refl (mI v_knownAt)) (Eq.refl (mI v_movedAct)) (Eq.refl (mI v_without))) (fun v_knownAt_c4 v_movedAct_c4 v_without_c4 => ?_)
    exact (t_pM_owed_b28 (Eq.refl N) (Eq.refl (mI a1)) (Eq.refl (mI v_acts)) (Eq.refl (mI v_as)) (Eq.refl (mI v_grain)) (Eq.refl (mI v_limit)) (Eq.refl (mI v_lost)) (Eq.refl (mI v_movedTerm)) (Eq.refl (mA v_actKind)) (Eq.refl (mA v_actNumber)) (Eq.refl (mA v_actShire)) (Eq.refl (mA v_actTerm)) (Eq.refl (mA v_codes)) (Eq.refl (mA v_cutAt)) (Eq.refl (mA v_cutWorth)) (Eq.refl (mA v_cuts)) (Eq.refl (mA v_first)) (Eq.refl (mA v_isBlanched)) (Eq.refl (mA v_many)) (Eq.refl (mA v_pence)) (Eq.refl (mA v_second)) (Eq.refl (mA v_sort)) (Eq.refl (mA v_sumEnd)) (Eq.refl (mA v_sumFrom)) (Eq.refl (mA v_testEnd)) (Eq.refl (mA v_voidAt)) (Eq.refl (mI v_knownAt_c4)) (Eq.refl (mI v_movedAct_c4)) (Eq.refl (mI v_without_c4)) (Eq.refl (mA v_best_c2)) (Eq.refl (mA v_cost_c2)) (Eq.refl (mA v_fits_c2)) (Eq.refl (mA v_mates_c2)) (Eq.refl N) jlitJ_0 jlitI_0 (Eq.refl (mJ v_allowed)) (Eq.refl (mJ v_debt)) (Eq.refl (mJ v_farms)) (Eq.refl (mI v_isBlanchedNow)) (Eq.refl (mI v_now)) (Eq.refl (mJ v_paid)) (Eq.refl (mJ v_paidTold)) (Eq.refl (mJ v_pardoned)) (Eq.refl (mI v_piled)) (Eq.refl (mI v_shireNow)) (Eq.refl (mL v_off)) (Eq.refl (mL v_pile)))
theorem t_pM_slip_b50_F {N N_j : Nat} (t_N : N = N_j) {a1 : Int32} {a1_j : Int} (t_a1 : mI a1 = a1_j) {a2 : Int32} {a2_j : Int} (t_a2 : mI a2 = a2_j) {a3 : Int64} {a3_j : Int} (t_a3 : mJ a3 = a3_j) {v_acts : Int32} {v_acts_j : Int} (t_v_acts : mI v_acts = v_acts_j) {v_as : Int32} {v_as_j : Int} (t_v_as : mI v_as = v_as_j) {v_grain : Int32} {v_grain_j : Int} (t_v_grain : mI v_grain = v_grain_j) {v_limit : Int32} {v_limit_j : Int} (t_v_limit : mI v_limit = v_limit_j) {v_lost : Int32} {v_lost_j : Int} (t_v_lost : mI v_lost = v_lost_j) {v_actKind : (Nat → Int32)} {v_actKind_j : (Nat → Int)} (t_v_actKind : mA v_actKind = v_actKind_j) {v_actNumber : (Nat → Int32)} {v_actNumber_j : (Nat → Int)} (t_v_actNumber : mA v_actNumber = v_actNumber_j) {v_actShire : (Nat → Int32)} {v_actShire_j : (Nat → Int)} (t_v_actShire : mA v_actShire = v_actShire_j) {v_actTerm : (Nat → Int32)} {v_actTerm_j : (Nat → Int)} (t_v_actTerm : mA v_actTerm = v_actTerm_j) {v_codes : (Nat → Int32)} {v_codes_j : (Nat → Int)} (t_v_codes : mA v_codes = v_codes_j) {v_cutAt : (Nat → Int32)} {v_cutAt_j : (Nat → Int)} (t_v_cutAt : mA v_cutAt = v_cutAt_j) {v_cutWorth : (Nat → Int32)} {v_cutWorth_j : (Nat → Int)} (t_v_cutWorth : mA v_cutWorth = v_cutWorth_j) {v_cuts : (Nat → Int32)} {v_cuts_j : (Nat → Int)} (t_v_cuts : mA v_cuts = v_cuts_j) {v_first : (Nat → Int32)} {v_first_j : (Nat → Int)} (t_v_first : mA v_first = v_first_j) {v_isBlanched : (Nat → Int32)} {v_isBlanched_j : (Nat → Int)} (t_v_isBlanched : mA v_isBlanched = v_isBlanched_j) {v_many : (Nat → Int32)} {v_many_j : (Nat → Int)} (t_v_many : mA v_many = v_many_j) {v_pence : (Nat → Int32)} {v_pence_j : (Nat → Int)} (t_v_pence : mA v_pence = v_pence_j) {v_second : (Nat → Int32)} {v_second_j : (Nat → Int)} (t_v_second : mA v_second = v_second_j) {v_sort : (Nat → Int32)} {v_sort_j : (Nat → Int)} (t_v_sort : mA v_sort = v_sort_j) {v_sumEnd : (Nat → Int32)} {v_sumEnd_j : (Nat → Int)} (t_v_sumEnd : mA v_sumEnd = v_sumEnd_j) {v_sumFrom : (Nat → Int32)} {v_sumFrom_j : (Nat → Int)} (t_v_sumFrom : mA v_sumFrom = v_sumFrom_j) {v_testEnd : (Nat → Int32)} {v_testEnd_j : (Nat → Int)} (t_v_testEnd : mA v_testEnd = v_testEnd_j) {v_voidAt : (Nat → Int32)} {v_voidAt_j : (Nat → Int)} (t_v_voidAt : mA v_voidAt = v_voidAt_j) {v_knownAt : Int32} {v_knownAt_j : Int} (t_v_knownAt : mI v_knownAt = v_knownAt_j) {v_moved : Int32} {v_moved_j : Int} (t_v_moved : mI v_moved = v_moved_j) {v_movedAct : Int32} {v_movedAct_j : Int} (t_v_movedAct : mI v_movedAct = v_movedAct_j) {v_movedTerm : Int32} {v_movedTerm_j : Int} (t_v_movedTerm : mI v_movedTerm = v_movedTerm_j) {v_best : (Nat → Int32)} {v_best_j : (Nat → Int)} (t_v_best : mA v_best = v_best_j) {v_cost : (Nat → Int32)} {v_cost_j : (Nat → Int)} (t_v_cost : mA v_cost = v_cost_j) {v_fits : (Nat → Int32)} {v_fits_j : (Nat → Int)} (t_v_fits : mA v_fits = v_fits_j) {v_mates : (Nat → Int32)} {v_mates_j : (Nat → Int)} (t_v_mates : mA v_mates = v_mates_j) {k113 : Int64 → Int64 → Int64 → Int32 → Int32 → Int64 → Int64 → Int64 → Int32 → Int32 → Int32 → (Nat → Int64) → (Nat → Int64) → Option R_pM_slip} {k113_j : Int → Int → Int → Int → Int → Int → Int → Int → Int → Int → Int → (Nat → Int) → (Nat → Int) → Option R_iM_slip} (t_k113 : ∀ (q0_ : Int64) (q1_ : Int64) (q2_ : Int64) (q3_ : Int32) (q4_ : Int32) (q5_ : Int64) (q6_ : Int64) (q7_ : Int64) (q8_ : Int32) (q9_ : Int32) (q10_ : Int32) (q11_ : (Nat → Int64)) (q12_ : (Nat → Int64)), tl (mP mI (mP mJ (mP mJ (mP mJ (mP mI (mP mI (mP mI (mP mI (mP mI (mP mI (mP mJ (mP mJ (mP mJ (mP mI (mP mI (mP mI (mP mA (mP mA (mP mA (mP mA (mP mL mL))))))))))))))))))))) (k113_j (mJ q0_) (mJ q1_) (mJ q2_) (mI q3_) (mI q4_) (mJ q5_) (mJ q6_) (mJ q7_) (mI q8_) (mI q9_) (mI q10_) (mL q11_) (mL q12_)) (k113 q0_ q1_ q2_ q3_ q4_ q5_ q6_ q7_ q8_ q9_ q10_ q11_ q12_)) {self : Int32 → Int64 → Int64 → Int64 → Int32 → Int32 → Int64 → Int64 → Int64 → Int32 → Int32 → Int32 → (Nat → Int64) → (Nat → Int64) → Option R_pM_slip} {self_j : Int → Int → Int → Int → Int → Int → Int → Int → Int → Int → Int → Int → (Nat → Int) → (Nat → Int) → Option R_iM_slip} (t_self : ∀ (q0_ : Int32) (q1_ : Int64) (q2_ : Int64) (q3_ : Int64) (q4_ : Int32) (q5_ : Int32) (q6_ : Int64) (q7_ : Int64) (q8_ : Int64) (q9_ : Int32) (q10_ : Int32) (q11_ : Int32) (q12_ : (Nat → Int64)) (q13_ : (Nat → Int64)), tl (mP mI (mP mJ (mP mJ (mP mJ (mP mI (mP mI (mP mI (mP mI (mP mI (mP mI (mP mJ (mP mJ (mP mJ (mP mI (mP mI (mP mI (mP mA (mP mA (mP mA (mP mA (mP mL mL))))))))))))))))))))) (self_j (mI q0_) (mJ q1_) (mJ q2_) (mJ q3_) (mI q4_) (mI q5_) (mJ q6_) (mJ q7_) (mJ q8_) (mI q9_) (mI q10_) (mI q11_) (mL q12_) (mL q13_)) (self q0_ q1_ q2_ q3_ q4_ q5_ q6_ q7_ q8_ q9_ q10_ q11_ q12_ q13_)) {x5 : Int32} {x5_j : Int} (t_x5 : mI x5 = x5_j) {v_allowed : Int64} {v_allowed_j : Int} (t_v_allowed : mJ v_allowed = v_allowed_j) {v_debt : Int64} {v_debt_j : Int} (t_v_debt : mJ v_debt = v_debt_j) {v_farms : Int64} {v_farms_j : Int} (t_v_farms : mJ v_farms = v_farms_j) {v_isBlanchedNow : Int32} {v_isBlanchedNow_j : Int} (t_v_isBlanchedNow : mI v_isBlanchedNow = v_isBlanchedNow_j) {v_now : Int32} {v_now_j : Int} (t_v_now : mI v_now = v_now_j) {v_paid : Int64} {v_paid_j : Int} (t_v_paid : mJ v_paid = v_paid_j) {v_paidTold : Int64} {v_paidTold_j : Int} (t_v_paidTold : mJ v_paidTold = v_paidTold_j) {v_pardoned : Int64} {v_pardoned_j : Int} (t_v_pardoned : mJ v_pardoned = v_pardoned_j) {v_piled : Int32} {v_piled_j : Int} (t_v_piled : mI v_piled = v_piled_j) {v_shireNow : Int32} {v_shireNow_j : Int} (t_v_shireNow : mI v_shireNow = v_shireNow_j) {v_without : Int32} {v_without_j : Int} (t_v_without : mI v_without = v_without_j) {v_off : (Nat → Int64)} {v_off_j : (Nat → Int)} (t_v_off : mL v_off = v_off_j) {v_pile : (Nat → Int64)} {v_pile_j : (Nat → Int)} (t_v_pile : mL v_pile = v_pile_j) : tl (mP mI (mP mJ (mP mJ (mP mJ (mP mI (mP mI (mP mI (mP mI (mP mI (mP mI (mP mJ (mP mJ (mP mJ (mP mI (mP mI (mP mI (mP mA (mP mA (mP mA (mP mA (mP mL mL))))))))))))))))))))) (iM_slip_b50_F N_j a1_j a2_j a3_j v_acts_j v_as_j v_grain_j v_limit_j v_lost_j v_actKind_j v_actNumber_j v_actShire_j v_actTerm_j v_codes_j v_cutAt_j v_cutWorth_j v_cuts_j v_first_j v_isBlanched_j v_many_j v_pence_j v_second_j v_sort_j v_sumEnd_j v_sumFrom_j v_testEnd_j v_voidAt_j v_knownAt_j v_moved_j v_movedAct_j v_movedTerm_j v_best_j v_cost_j v_fits_j v_mates_j k113_j self_j x5_j v_allowed_j v_debt_j v_farms_j v_isBlanchedNow_j v_now_j v_paid_j v_paidTold_j v_pardoned_j v_piled_j v_shireNow_j v_without_j v_off_j v_pile_j) (pM_slip_b50_F N a1 a2 a3 v_acts v_as v_grain v_limit v_lost v_actKind v_actNumber v_actShire v_actTerm v_codes v_cutAt v_cutWorth v_cuts v_first v_isBlanched v_many v_pence v_second v_sort v_sumEnd v_sumFrom v_testEnd v_voidAt v_knownAt v_moved v_movedAct v_movedTerm v_best v_cost v_fits v_mates k113 self x5 v_allowed v_debt v_farms v_isBlanchedNow v_now v_paid v_paidTold v_pardoned v_piled v_shireNow v_without v_off v_pile) := by
  subst t_N
  subst t_a1
  subst t_a2
  subst t_a3
  subst t_v_acts
  subst t_v_as
  subst t_v_grain
  subst t_v_limit
  subst t_v_lost
  subst t_v_actKind
  subst t_v_actNumber
  subst t_v_actShire
  subst t_v_actTerm
  subst t_v_codes
  subst t_v_cutAt
  subst t_v_cutWorth
  subst t_v_cuts
  subst t_v_first
  subst t_v_isBlanched
  subst t_v_many
  subst t_v_pence
  subst t_v_second
  subst t_v_sort
  subst t_v_sumEnd
  subst t_v_sumFrom
  subst t_v_testEnd
  subst t_v_voidAt
  subst t_v_knownAt
  subst t_v_moved
  subst t_v_movedAct
  subst t_v_movedTerm
  subst t_v_best
  subst t_v_cost
  subst t_v_fits
  subst t_v_mates
  subst t_x5
  subst t_v_allowed
  subst t_v_debt
  subst t_v_farms
  subst t_v_isBlanchedNow
  subst t_v_now
  subst t_v_paid
  subst t_v_paidTold
  subst t_v_pardoned
  subst t_v_piled
  subst t_v_shireNow
  subst t_v_without
  subst t_v_off
  subst t_v_pile
  unfold iM_slip_b50_F pM_slip_b50_F
  refine tl_ite (jc_lt (Eq.refl (mI v_acts)) (Eq.refl (mI x5))) ?_ ?_
  · exact (tl_e13 (Eq.refl (mJ v_allowed)) (Eq.refl (mJ v_debt)) (Eq.refl (mJ v_farms)) (Eq.refl (mI v_isBlanchedNow)) (Eq.refl (mI v_now)) (Eq.refl (mJ v_paid)) (Eq.refl (mJ v_paidTold)) (Eq.refl (mJ v_pardoned)) (Eq.refl (mI v_piled)) (Eq.refl (mI v_shireNow)) (Eq.refl (mI v_without)) (Eq.refl (mL v_off)) (Eq.refl (mL v_pile)) (t_k113 _ _ _ _ _ _ _ _ _ _ _ _ _))
  · refine tl_gd (jg_ib (Eq.refl (mI x5))) (fun _ => ?_)
    refine tl_ite (jc_eq (jrd (Eq.refl (mA v_actKind)) (jx (Eq.refl (mI x5)))) jlitI_5) ?_ ?_
    · refine tl_g (fun h1 => ?_)
      exact (tl_e14 (ja_add (Eq.refl (mI x5)) jlitI_1 h1) (Eq.refl (mJ v_allowed)) (Eq.refl (mJ v_debt)) (Eq.refl (mJ v_farms)) (Eq.refl (mI v_isBlanchedNow)) (Eq.refl (mI v_now)) (Eq.refl (mJ v_paid)) (Eq.refl (mJ v_paidTold)) (Eq.refl (mJ v_pardoned)) (Eq.refl (mI v_piled)) (Eq.refl (mI v_shireNow)) jlitI_m1 (Eq.refl (mL v_off)) (Eq.refl (mL v_pile)) (t_self _ _ _ _ _ _ _ _ _ _ _ _ _ _))
    · refine tl_bd1 (t_pM_isKnown (Eq.refl (mI x5)) (Eq.refl (mI v_knownAt)) jlitI_m1 (Eq.refl (mA v_voidAt))) (fun rc8 => ?_)
      refine tl_ite (jc_eq (Eq.refl (mI rc8)) jlitI_0) ?_ ?_
      · refine tl_g (fun h2 => ?_)
        exact (tl_e14 (ja_add (Eq.refl (mI x5)) jlitI_1 h2) (Eq.refl (mJ v_allowed)) (Eq.refl (mJ v_debt)) (Eq.refl (mJ v_farms)) (Eq.refl (mI v_isBlanchedNow)) (Eq.refl (mI v_now)) (Eq.refl (mJ v_paid)) (Eq.refl (mJ v_paidTold)) (Eq.refl (mJ v_pardoned)) (Eq.refl (mI v_piled)) (Eq.refl (mI v_shireNow)) jlitI_m1 (Eq.refl (mL v_off)) (Eq.refl (mL v_pile)) (t_self _ _ _ _ _ _ _ _ _ _ _ _ _ _))
      · refine tl_bd13 (t_pM_rolls (Eq.refl N) (Eq.refl (mI a1)) (Eq.refl (mI a2)) (Eq.refl (mI v_acts)) (Eq.refl (mJ v_allowed)) (Eq.refl (mJ v_debt)) (Eq.refl (mJ v_farms)) (Eq.refl (mI v_isBlanchedNow)) (Eq.refl (mI v_knownAt)) (Eq.refl (mI v_movedAct)) (Eq.refl (mI v_movedTerm)) (Eq.refl (mI v_now)) (Eq.refl (mJ v_paid)) (Eq.refl (mJ v_paidTold)) (Eq.refl (mJ v_pardoned)) (Eq.refl (mI v_piled)) (Eq.refl (mI v_shireNow)) (Eq.refl (mI x5)) (Eq.refl (mA v_actKind)) (Eq.refl (mA v_actNumber)) (Eq.refl (mA v_actShire)) (Eq.refl (mA v_actTerm)) (Eq.refl (mA v_codes)) (Eq.refl (mA v_cutWorth)) (Eq.refl (mA v_cuts)) (Eq.refl (mA v_first)) (Eq.refl (mA v_isBlanched)) (Eq.refl (mA v_many)) (Eq.refl (mA v_mates)) (Eq.refl (mL v_off)) (Eq.refl (mA v_pence)) (Eq.refl (mL v_pile)) (Eq.refl (mA v_second)) (Eq.refl (mA v_sort)) (Eq.refl (mA v_sumEnd)) (Eq.refl (mA v_sumFrom)) (Eq.refl (mA v_testEnd)) (Eq.refl (mA v_voidAt))) (fun rc9 v_allowed_c9 v_debt_c9 v_farms_c9 v_isBlanchedNow_c9 v_now_c9 v_paid_c9 v_paidTold_c9 v_pardoned_c9 v_piled_c9 v_shireNow_c9 v_off_c9 v_pile_c9 => ?_)
        refine tl_ite (jk_eq (Eq.refl (mJ rc9)) (Eq.refl (mJ a3))) ?_ ?_
        · exact (tl_some (jp2 (Eq.refl (mI x5)) (jp2 (Eq.refl (mJ v_allowed_c9)) (jp2 (Eq.refl (mJ v_debt_c9)) (jp2 (Eq.refl (mJ v_farms_c9)) (jp2 (Eq.refl (mI v_isBlanchedNow_c9)) (jp2 (Eq.refl (mI v_knownAt)) (jp2 (Eq.refl (mI v_moved)) (jp2 (Eq.refl (mI v_movedAct)) (jp2 (Eq.refl (mI v_movedTerm)) (jp2 (Eq.refl (mI v_now_c9)) (jp2 (Eq.refl (mJ v_paid_c9)) (jp2 (Eq.refl (mJ v_paidTold_c9)) (jp2 (Eq.refl (mJ v_pardoned_c9)) (jp2 (Eq.refl (mI v_piled_c9)) (jp2 (Eq.refl (mI v_shireNow_c9)) (jp2 (Eq.refl (mI x5)) (jp2 (Eq.refl (mA v_best)) (jp2 (Eq.refl (mA v_cost)) (jp2 (Eq.refl (mA v_fits)) (jp2 (Eq.refl (mA v_mates)) (jp2 (Eq.refl (mL v_off_c9)) (Eq.refl (mL v_pile_c9))))))))))))))))))))))))
        · refine tl_g (fun h3 => ?_)
          exact (tl_e14 (ja_add (Eq.refl (mI x5)) jlitI_1 h3) (Eq.refl (mJ v_allowed_c9)) (Eq.refl (mJ v_debt_c9)) (Eq.refl (mJ v_farms_c9)) (Eq.refl (mI v_isBlanchedNow_c9)) (Eq.refl (mI v_now_c9)) (Eq.refl (mJ v_paid_c9)) (Eq.refl (mJ v_paidTold_c9)) (Eq.refl (mJ v_pardoned_c9)) (Eq.refl (mI v_piled_c9)) (Eq.refl (mI v_shireNow_c9)) (Eq.refl (mI x5)) (Eq.refl (mL v_off_c9)) (Eq.refl (mL v_pile_c9)) (t_self _ _ _ _ _ _ _ _ _ _ _ _ _ _))
theorem t_pM_slip_b50 {N N_j : Nat} (t_N : N = N_j) {a1 : Int32} {a1_j : Int} (t_a1 : mI a1 = a1_j) {a2 : Int32} {a2_j : Int} (t_a2 : mI a2 = a2_j) {a3 : Int64} {a3_j : Int} (t_a3 : mJ a3 = a3_j) {v_acts : Int32} {v_acts_j : Int} (t_v_acts : mI v_acts = v_acts_j) {v_as : Int32} {v_as_j : Int} (t_v_as : mI v_as = v_as_j) {v_grain : Int32} {v_grain_j : Int} (t_v_grain : mI v_grain = v_grain_j) {v_limit : Int32} {v_limit_j : Int} (t_v_limit : mI v_limit = v_limit_j) {v_lost : Int32} {v_lost_j : Int} (t_v_lost : mI v_lost = v_lost_j) {v_actKind : (Nat → Int32)} {v_actKind_j : (Nat → Int)} (t_v_actKind : mA v_actKind = v_actKind_j) {v_actNumber : (Nat → Int32)} {v_actNumber_j : (Nat → Int)} (t_v_actNumber : mA v_actNumber = v_actNumber_j) {v_actShire : (Nat → Int32)} {v_actShire_j : (Nat → Int)} (t_v_actShire : mA v_actShire = v_actShire_j) {v_actTerm : (Nat → Int32)} {v_actTerm_j : (Nat → Int)} (t_v_actTerm : mA v_actTerm = v_actTerm_j) {v_codes : (Nat → Int32)} {v_codes_j : (Nat → Int)} (t_v_codes : mA v_codes = v_codes_j) {v_cutAt : (Nat → Int32)} {v_cutAt_j : (Nat → Int)} (t_v_cutAt : mA v_cutAt = v_cutAt_j) {v_cutWorth : (Nat → Int32)} {v_cutWorth_j : (Nat → Int)} (t_v_cutWorth : mA v_cutWorth = v_cutWorth_j) {v_cuts : (Nat → Int32)} {v_cuts_j : (Nat → Int)} (t_v_cuts : mA v_cuts = v_cuts_j) {v_first : (Nat → Int32)} {v_first_j : (Nat → Int)} (t_v_first : mA v_first = v_first_j) {v_isBlanched : (Nat → Int32)} {v_isBlanched_j : (Nat → Int)} (t_v_isBlanched : mA v_isBlanched = v_isBlanched_j) {v_many : (Nat → Int32)} {v_many_j : (Nat → Int)} (t_v_many : mA v_many = v_many_j) {v_pence : (Nat → Int32)} {v_pence_j : (Nat → Int)} (t_v_pence : mA v_pence = v_pence_j) {v_second : (Nat → Int32)} {v_second_j : (Nat → Int)} (t_v_second : mA v_second = v_second_j) {v_sort : (Nat → Int32)} {v_sort_j : (Nat → Int)} (t_v_sort : mA v_sort = v_sort_j) {v_sumEnd : (Nat → Int32)} {v_sumEnd_j : (Nat → Int)} (t_v_sumEnd : mA v_sumEnd = v_sumEnd_j) {v_sumFrom : (Nat → Int32)} {v_sumFrom_j : (Nat → Int)} (t_v_sumFrom : mA v_sumFrom = v_sumFrom_j) {v_testEnd : (Nat → Int32)} {v_testEnd_j : (Nat → Int)} (t_v_testEnd : mA v_testEnd = v_testEnd_j) {v_voidAt : (Nat → Int32)} {v_voidAt_j : (Nat → Int)} (t_v_voidAt : mA v_voidAt = v_voidAt_j) {v_knownAt : Int32} {v_knownAt_j : Int} (t_v_knownAt : mI v_knownAt = v_knownAt_j) {v_moved : Int32} {v_moved_j : Int} (t_v_moved : mI v_moved = v_moved_j) {v_movedAct : Int32} {v_movedAct_j : Int} (t_v_movedAct : mI v_movedAct = v_movedAct_j) {v_movedTerm : Int32} {v_movedTerm_j : Int} (t_v_movedTerm : mI v_movedTerm = v_movedTerm_j) {v_best : (Nat → Int32)} {v_best_j : (Nat → Int)} (t_v_best : mA v_best = v_best_j) {v_cost : (Nat → Int32)} {v_cost_j : (Nat → Int)} (t_v_cost : mA v_cost = v_cost_j) {v_fits : (Nat → Int32)} {v_fits_j : (Nat → Int)} (t_v_fits : mA v_fits = v_fits_j) {v_mates : (Nat → Int32)} {v_mates_j : (Nat → Int)} (t_v_mates : mA v_mates = v_mates_j) {k113 : Int64 → Int64 → Int64 → Int32 → Int32 → Int64 → Int64 → Int64 → Int32 → Int32 → Int32 → (Nat → Int64) → (Nat → Int64) → Option R_pM_slip} {k113_j : Int → Int → Int → Int → Int → Int → Int → Int → Int → Int → Int → (Nat → Int) → (Nat → Int) → Option R_iM_slip} (t_k113 : ∀ (q0_ : Int64) (q1_ : Int64) (q2_ : Int64) (q3_ : Int32) (q4_ : Int32) (q5_ : Int64) (q6_ : Int64) (q7_ : Int64) (q8_ : Int32) (q9_ : Int32) (q10_ : Int32) (q11_ : (Nat → Int64)) (q12_ : (Nat → Int64)), tl (mP mI (mP mJ (mP mJ (mP mJ (mP mI (mP mI (mP mI (mP mI (mP mI (mP mI (mP mJ (mP mJ (mP mJ (mP mI (mP mI (mP mI (mP mA (mP mA (mP mA (mP mA (mP mL mL))))))))))))))))))))) (k113_j (mJ q0_) (mJ q1_) (mJ q2_) (mI q3_) (mI q4_) (mJ q5_) (mJ q6_) (mJ q7_) (mI q8_) (mI q9_) (mI q10_) (mL q11_) (mL q12_)) (k113 q0_ q1_ q2_ q3_ q4_ q5_ q6_ q7_ q8_ q9_ q10_ q11_ q12_)) {n n_j : Nat} (t_n : n = n_j) {w0_ : Int32} {w0__j : Int} (t_w0_ : mI w0_ = w0__j) {w1_ : Int64} {w1__j : Int} (t_w1_ : mJ w1_ = w1__j) {w2_ : Int64} {w2__j : Int} (t_w2_ : mJ w2_ = w2__j) {w3_ : Int64} {w3__j : Int} (t_w3_ : mJ w3_ = w3__j) {w4_ : Int32} {w4__j : Int} (t_w4_ : mI w4_ = w4__j) {w5_ : Int32} {w5__j : Int} (t_w5_ : mI w5_ = w5__j) {w6_ : Int64} {w6__j : Int} (t_w6_ : mJ w6_ = w6__j) {w7_ : Int64} {w7__j : Int} (t_w7_ : mJ w7_ = w7__j) {w8_ : Int64} {w8__j : Int} (t_w8_ : mJ w8_ = w8__j) {w9_ : Int32} {w9__j : Int} (t_w9_ : mI w9_ = w9__j) {w10_ : Int32} {w10__j : Int} (t_w10_ : mI w10_ = w10__j) {w11_ : Int32} {w11__j : Int} (t_w11_ : mI w11_ = w11__j) {w12_ : (Nat → Int64)} {w12__j : (Nat → Int)} (t_w12_ : mL w12_ = w12__j) {w13_ : (Nat → Int64)} {w13__j : (Nat → Int)} (t_w13_ : mL w13_ = w13__j) : tl (mP mI (mP mJ (mP mJ (mP mJ (mP mI (mP mI (mP mI (mP mI (mP mI (mP mI (mP mJ (mP mJ (mP mJ (mP mI (mP mI (mP mI (mP mA (mP mA (mP mA (mP mA (mP mL mL))))))))))))))))))))) (iM_slip_b50 N_j a1_j a2_j a3_j v_acts_j v_as_j v_grain_j v_limit_j v_lost_j v_actKind_j v_actNumber_j v_actShire_j v_actTerm_j v_codes_j v_cutAt_j v_cutWorth_j v_cuts_j v_first_j v_isBlanched_j v_many_j v_pence_j v_second_j v_sort_j v_sumEnd_j v_sumFrom_j v_testEnd_j v_voidAt_j v_knownAt_j v_moved_j v_movedAct_j v_movedTerm_j v_best_j v_cost_j v_fits_j v_mates_j k113_j n_j w0__j w1__j w2__j w3__j w4__j w5__j w6__j w7__j w8__j w9__j w10__j w11__j w12__j w13__j) (pM_slip_b50 N a1 a2 a3 v_acts v_as v_grain v_limit v_lost v_actKind v_actNumber v_actShire v_actTerm v_codes v_cutAt v_cutWorth v_cuts v_first v_isBlanched v_many v_pence v_second v_sort v_sumEnd v_sumFrom v_testEnd v_voidAt v_knownAt v_moved v_movedAct v_movedTerm v_best v_cost v_fits v_mates k113 n w0_ w1_ w2_ w3_ w4_ w5_ w6_ w7_ w8_ w9_ w10_ w11_ w12_ w13_) := by
  subst t_N
  subst t_a1
  subst t_a2
  subst t_a3
  subst t_v_acts
  subst t_v_as
  subst t_v_grain
  subst t_v_limit
  subst t_v_lost
  subst t_v_actKind
  subst t_v_actNumber
  subst t_v_actShire
  subst t_v_actTerm
  subst t_v_codes
  subst t_v_cutAt
  subst t_v_cutWorth
  subst t_v_cuts
  subst t_v_first
  subst t_v_isBlanched
  subst t_v_many
  subst t_v_pence
  subst t_v_second
  subst t_v_sort
  subst t_v_sumEnd
  subst t_v_sumFrom
  subst t_v_testEnd
  subst t_v_voidAt
  subst t_v_knownAt
  subst t_v_moved
  subst t_v_movedAct
  subst t_v_movedTerm
  subst t_v_best
  subst t_v_cost
  subst t_v_fits
  subst t_v_mates
  subst t_n
  subst t_w0_
  subst t_w1_
  subst t_w2_
  subst t_w3_
  subst t_w4_
  subst t_w5_
  subst t_w6_
  subst t_w7_
  subst t_w8_
  subst t_w9_
  subst t_w10_
  subst t_w11_
  subst t_w12_
  subst t_w13_
  exact tl_zlp14 (fun s2 s hs w0_ w1_ w2_ w3_ w4_ w5_ w6_ w7_ w8_ w9_ w10_ w11_ w12_ w13_ => t_pM_slip_b50_F (Eq.refl N) (Eq.refl (mI a1)) (Eq.refl (mI a2)) (Eq.refl (mJ a3)) (Eq.refl (mI v_acts)) (Eq.refl (mI v_as)) (Eq.refl (mI v_grain)) (Eq.refl (mI v_limit)) (Eq.refl (mI v_lost)) (Eq.refl (mA v_actKind)) (Eq.refl (mA v_actNumber)) (Eq.refl (mA v_actShire)) (Eq.refl (mA v_actTerm)) (Eq.refl (mA v_codes)) (Eq.refl (mA v_cutAt)) (Eq.refl (mA v_cutWorth)) (Eq.refl (mA v_cuts)) (Eq.refl (mA v_first)) (Eq.refl (mA v_isBlanched)) (Eq.refl (mA v_many)) (Eq.refl (mA v_pence)) (Eq.refl (mA v_second)) (Eq.refl (mA v_sort)) (Eq.refl (mA v_sumEnd)) (Eq.refl (mA v_sumFrom)) (Eq.refl (mA v_testEnd)) (Eq.refl (mA v_voidAt)) (Eq.refl (mI v_knownAt)) (Eq.refl (mI v_moved)) (Eq.refl (mI v_movedAct)) (Eq.refl (mI v_movedTerm)) (Eq.refl (mA v_best)) (Eq.refl (mA v_cost)) (Eq.refl (mA v_fits)) (Eq.refl (mA v_mates)) t_k113 hs (Eq.refl (mI w0_)) (Eq.refl (mJ w1_)) (Eq.refl (mJ w2_)) (Eq.refl (mJ w3_)) (Eq.refl (mI w4_)) (Eq.refl (mI w5_)) (Eq.refl (mJ w6_)) (Eq.refl (mJ w7_)) (Eq.refl (mJ w8_)) (Eq.refl (mI w9_)) (Eq.refl (mI w10_)) (Eq.refl (mI w11_)) (Eq.refl (mL w12_)) (Eq.refl (mL w13_))) n w0_ w1_ w2_ w3_ w4_ w5_ w6_ w7_ w8_ w9_ w10_ w11_ w12_ w13_
theorem t_pM_slip_b225 {N N_j : Nat} (t_N : N = N_j) {a1 : Int32} {a1_j : Int} (t_a1 : mI a1 = a1_j) {a2 : Int32} {a2_j : Int} (t_a2 : mI a2 = a2_j) {a3 : Int64} {a3_j : Int} (t_a3 : mJ a3 = a3_j) {v_acts : Int32} {v_acts_j : Int} (t_v_acts : mI v_acts = v_acts_j) {v_as : Int32} {v_as_j : Int} (t_v_as : mI v_as = v_as_j) {v_grain : Int32} {v_grain_j : Int} (t_v_grain : mI v_grain = v_grain_j) {v_limit : Int32} {v_limit_j : Int} (t_v_limit : mI v_limit = v_limit_j) {v_lost : Int32} {v_lost_j : Int} (t_v_lost : mI v_lost = v_lost_j) {v_actKind : (Nat → Int32)} {v_actKind_j : (Nat → Int)} (t_v_actKind : mA v_actKind = v_actKind_j) {v_actNumber : (Nat → Int32)} {v_actNumber_j : (Nat → Int)} (t_v_actNumber : mA v_actNumber = v_actNumber_j) {v_actShire : (Nat → Int32)} {v_actShire_j : (Nat → Int)} (t_v_actShire : mA v_actShire = v_actShire_j) {v_actTerm : (Nat → Int32)} {v_actTerm_j : (Nat → Int)} (t_v_actTerm : mA v_actTerm = v_actTerm_j) {v_codes : (Nat → Int32)} {v_codes_j : (Nat → Int)} (t_v_codes : mA v_codes = v_codes_j) {v_cutAt : (Nat → Int32)} {v_cutAt_j : (Nat → Int)} (t_v_cutAt : mA v_cutAt = v_cutAt_j) {v_cutWorth : (Nat → Int32)} {v_cutWorth_j : (Nat → Int)} (t_v_cutWorth : mA v_cutWorth = v_cutWorth_j) {v_cuts : (Nat → Int32)} {v_cuts_j : (Nat → Int)} (t_v_cuts : mA v_cuts = v_cuts_j) {v_first : (Nat → Int32)} {v_first_j : (Nat → Int)} (t_v_first : mA v_first = v_first_j) {v_isBlanched : (Nat → Int32)} {v_isBlanched_j : (Nat → Int)} (t_v_isBlanched : mA v_isBlanched = v_isBlanched_j) {v_many : (Nat → Int32)} {v_many_j : (Nat → Int)} (t_v_many : mA v_many = v_many_j) {v_pence : (Nat → Int32)} {v_pence_j : (Nat → Int)} (t_v_pence : mA v_pence = v_pence_j) {v_second : (Nat → Int32)} {v_second_j : (Nat → Int)} (t_v_second : mA v_second = v_second_j) {v_sort : (Nat → Int32)} {v_sort_j : (Nat → Int)} (t_v_sort : mA v_sort = v_sort_j) {v_sumEnd : (Nat → Int32)} {v_sumEnd_j : (Nat → Int)} (t_v_sumEnd : mA v_sumEnd = v_sumEnd_j) {v_sumFrom : (Nat → Int32)} {v_sumFrom_j : (Nat → Int)} (t_v_sumFrom : mA v_sumFrom = v_sumFrom_j) {v_testEnd : (Nat → Int32)} {v_testEnd_j : (Nat → Int)} (t_v_testEnd : mA v_testEnd = v_testEnd_j) {v_voidAt : (Nat → Int32)} {v_voidAt_j : (Nat → Int)} (t_v_voidAt : mA v_voidAt = v_voidAt_j) {self : Int32 → Int64 → Int64 → Int64 → Int32 → Int32 → Int32 → Int32 → Int64 → Int64 → Int64 → Int32 → Int32 → (Nat → Int64) → (Nat → Int64) → Option R_pM_slip} {self_j : Int → Int → Int → Int → Int → Int → Int → Int → Int → Int → Int → Int → Int → (Nat → Int) → (Nat → Int) → Option R_iM_slip} (t_self : ∀ (q0_ : Int32) (q1_ : Int64) (q2_ : Int64) (q3_ : Int64) (q4_ : Int32) (q5_ : Int32) (q6_ : Int32) (q7_ : Int32) (q8_ : Int64) (q9_ : Int64) (q10_ : Int64) (q11_ : Int32) (q12_ : Int32) (q13_ : (Nat → Int64)) (q14_ : (Nat → Int64)), tl (mP mI (mP mJ (mP mJ (mP mJ (mP mI (mP mI (mP mI (mP mI (mP mI (mP mI (mP mJ (mP mJ (mP mJ (mP mI (mP mI (mP mI (mP mA (mP mA (mP mA (mP mA (mP mL mL))))))))))))))))))))) (self_j (mI q0_) (mJ q1_) (mJ q2_) (mJ q3_) (mI q4_) (mI q5_) (mI q6_) (mI q7_) (mJ q8_) (mJ q9_) (mJ q10_) (mI q11_) (mI q12_) (mL q13_) (mL q14_)) (self q0_ q1_ q2_ q3_ q4_ q5_ q6_ q7_ q8_ q9_ q10_ q11_ q12_ q13_ q14_)) {x5 : Int32} {x5_j : Int} (t_x5 : mI x5 = x5_j) {v_allowed : Int64} {v_allowed_j : Int} (t_v_allowed : mJ v_allowed = v_allowed_j) {v_debt : Int64} {v_debt_j : Int} (t_v_debt : mJ v_debt = v_debt_j) {v_farms : Int64} {v_farms_j : Int} (t_v_farms : mJ v_farms = v_farms_j) {v_isBlanchedNow : Int32} {v_isBlanchedNow_j : Int} (t_v_isBlanchedNow : mI v_isBlanchedNow = v_isBlanchedNow_j) {v_knownAt : Int32} {v_knownAt_j : Int} (t_v_knownAt : mI v_knownAt = v_knownAt_j) {v_moved : Int32} {v_moved_j : Int} (t_v_moved : mI v_moved = v_moved_j) {v_movedAct : Int32} {v_movedAct_j : Int} (t_v_movedAct : mI v_movedAct = v_movedAct_j) {v_movedTerm : Int32} {v_movedTerm_j : Int} (t_v_movedTerm : mI v_movedTerm = v_movedTerm_j) {v_now : Int32} {v_now_j : Int} (t_v_now : mI v_now = v_now_j) {v_paid : Int64} {v_paid_j : Int} (t_v_paid : mJ v_paid = v_paid_j) {v_paidTold : Int64} {v_paidTold_j : Int} (t_v_paidTold : mJ v_paidTold = v_paidTold_j) {v_pardoned : Int64} {v_pardoned_j : Int} (t_v_pardoned : mJ v_pardoned = v_pardoned_j) {v_piled : Int32} {v_piled_j : Int} (t_v_piled : mI v_piled = v_piled_j) {v_shireNow : Int32} {v_shireNow_j : Int} (t_v_shireNow : mI v_shireNow = v_shireNow_j) {v_without : Int32} {v_without_j : Int} (t_v_without : mI v_without = v_without_j) {v_best : (Nat → Int32)} {v_best_j : (Nat → Int)} (t_v_best : mA v_best = v_best_j) {v_cost : (Nat → Int32)} {v_cost_j : (Nat → Int)} (t_v_cost : mA v_cost = v_cost_j) {v_fits : (Nat → Int32)} {v_fits_j : (Nat → Int)} (t_v_fits : mA v_fits = v_fits_j) {v_mates : (Nat → Int32)} {v_mates_j : (Nat → Int)} (t_v_mates : mA v_mates = v_mates_j) {v_off : (Nat → Int64)} {v_off_j : (Nat → Int)} (t_v_off : mL v_off = v_off_j) {v_pile : (Nat → Int64)} {v_pile_j : (Nat → Int)} (t_v_pile : mL v_pile = v_pile_j) : tl (mP mI (mP mJ (mP mJ (mP mJ (mP mI (mP mI (mP mI (mP mI (mP mI (mP mI (mP mJ (mP mJ (mP mJ (mP mI (mP mI (mP mI (mP mA (mP mA (mP mA (mP mA (mP mL mL))))))))))))))))))))) (iM_slip_b225 N_j a1_j a2_j a3_j v_acts_j v_as_j v_grain_j v_limit_j v_lost_j v_actKind_j v_actNumber_j v_actShire_j v_actTerm_j v_codes_j v_cutAt_j v_cutWorth_j v_cuts_j v_first_j v_isBlanched_j v_many_j v_pence_j v_second_j v_sort_j v_sumEnd_j v_sumFrom_j v_testEnd_j v_voidAt_j self_j x5_j v_allowed_j v_debt_j v_farms_j v_isBlanchedNow_j v_knownAt_j v_moved_j v_movedAct_j v_movedTerm_j v_now_j v_paid_j v_paidTold_j v_pardoned_j v_piled_j v_shireNow_j v_without_j v_best_j v_cost_j v_fits_j v_mates_j v_off_j v_pile_j) (pM_slip_b225 N a1 a2 a3 v_acts v_as v_grain v_limit v_lost v_actKind v_actNumber v_actShire v_actTerm v_codes v_cutAt v_cutWorth v_cuts v_first v_isBlanched v_many v_pence v_second v_sort v_sumEnd v_sumFrom v_testEnd v_voidAt self x5 v_allowed v_debt v_farms v_isBlanchedNow v_knownAt v_moved v_movedAct v_movedTerm v_now v_paid v_paidTold v_pardoned v_piled v_shireNow v_without v_best v_cost v_fits v_mates v_off v_pile) := by
  subst t_N
  subst t_a1
  subst t_a2
  subst t_a3
  subst t_v_acts
  subst t_v_as
  subst t_v_grain
  subst t_v_limit
  subst t_v_lost
  subst t_v_actKind
  subst t_v_actNumber
  subst t_v_actShire
  subst t_v_actTerm
  subst t_v_codes
  subst t_v_cutAt
  subst t_v_cutWorth
  subst t_v_cuts
  subst t_v_first
  subst t_v_isBlanched
  subst t_v_many
  subst t_v_pence
  subst t_v_second
  subst t_v_sort
  subst t_v_sumEnd
  subst t_v_sumFrom
  subst t_v_testEnd
  subst t_v_voidAt
  subst t_x5
  subst t_v_allowed
  subst t_v_debt
  subst t_v_farms
  subst t_v_isBlanchedNow
  subst t_v_knownAt
  subst t_v_moved
  subst t_v_movedAct
  subst t_v_movedTerm
  subst t_v_now
  subst t_v_paid
  subst t_v_paidTold
  subst t_v_pardoned
  subst t_v_piled
  subst t_v_shireNow
  subst t_v_without
  subst t_v_best
  subst t_v_cost
  subst t_v_fits
  subst t_v_mates
  subst t_v_off
  subst t_v_pile
  unfold iM_slip_b225 pM_slip_b225
  refine tl_g (fun h1 => ?_)
  exact (tl_e15 (ja_add (Eq.refl (mI x5)) jlitI_1 h1) (Eq.refl (mJ v_allowed)) (Eq.refl (mJ v_debt)) (Eq.refl (mJ v_farms)) (Eq.refl (mI v_isBlanchedNow)) (Eq.refl (mI v_movedAct)) (Eq.refl (mI v_movedTerm)) (Eq.refl (mI v_now)) (Eq.refl (mJ v_paid)) (Eq.refl (mJ v_paidTold)) (Eq.refl (mJ v_pardoned)) (Eq.refl (mI v_piled)) (Eq.refl (mI v_shireNow)) (Eq.refl (mL v_off)) (Eq.refl (mL v_pile)) (t_self _ _ _ _ _ _ _ _ _ _ _ _ _ _ _))
theorem t_pM_slip_b165_F {N N_j : Nat} (t_N : N = N_j) {a1 : Int32} {a1_j : Int} (t_a1 : mI a1 = a1_j) {a2 : Int32} {a2_j : Int} (t_a2 : mI a2 = a2_j) {a3 : Int64} {a3_j : Int} (t_a3 : mJ a3 = a3_j) {v_acts : Int32} {v_acts_j : Int} (t_v_acts : mI v_acts = v_acts_j) {v_as : Int32} {v_as_j : Int} (t_v_as : mI v_as = v_as_j) {v_grain : Int32} {v_grain_j : Int} (t_v_grain : mI v_grain = v_grain_j) {v_limit : Int32} {v_limit_j : Int} (t_v_limit : mI v_limit = v_limit_j) {v_lost : Int32} {v_lost_j : Int} (t_v_lost : mI v_lost = v_lost_j) {v_actKind : (Nat → Int32)} {v_actKind_j : (Nat → Int)} (t_v_actKind : mA v_actKind = v_actKind_j) {v_actNumber : (Nat → Int32)} {v_actNumber_j : (Nat → Int)} (t_v_actNumber : mA v_actNumber = v_actNumber_j) {v_actShire : (Nat → Int32)} {v_actShire_j : (Nat → Int)} (t_v_actShire : mA v_actShire = v_actShire_j) {v_actTerm : (Nat → Int32)} {v_actTerm_j : (Nat → Int)} (t_v_actTerm : mA v_actTerm = v_actTerm_j) {v_codes : (Nat → Int32)} {v_codes_j : (Nat → Int)} (t_v_codes : mA v_codes = v_codes_j) {v_cutAt : (Nat → Int32)} {v_cutAt_j : (Nat → Int)} (t_v_cutAt : mA v_cutAt = v_cutAt_j) {v_cutWorth : (Nat → Int32)} {v_cutWorth_j : (Nat → Int)} (t_v_cutWorth : mA v_cutWorth = v_cutWorth_j) {v_cuts : (Nat → Int32)} {v_cuts_j : (Nat → Int)} (t_v_cuts : mA v_cuts = v_cuts_j) {v_first : (Nat → Int32)} {v_first_j : (Nat → Int)} (t_v_first : mA v_first = v_first_j) {v_isBlanched : (Nat → Int32)} {v_isBlanched_j : (Nat → Int)} (t_v_isBlanched : mA v_isBlanched = v_isBlanched_j) {v_many : (Nat → Int32)} {v_many_j : (Nat → Int)} (t_v_many : mA v_many = v_many_j) {v_pence : (Nat → Int32)} {v_pence_j : (Nat → Int)} (t_v_pence : mA v_pence = v_pence_j) {v_second : (Nat → Int32)} {v_second_j : (Nat → Int)} (t_v_second : mA v_second = v_second_j) {v_sort : (Nat → Int32)} {v_sort_j : (Nat → Int)} (t_v_sort : mA v_sort = v_sort_j) {v_sumEnd : (Nat → Int32)} {v_sumEnd_j : (Nat → Int)} (t_v_sumEnd : mA v_sumEnd = v_sumEnd_j) {v_sumFrom : (Nat → Int32)} {v_sumFrom_j : (Nat → Int)} (t_v_sumFrom : mA v_sumFrom = v_sumFrom_j) {v_testEnd : (Nat → Int32)} {v_testEnd_j : (Nat → Int)} (t_v_testEnd : mA v_testEnd = v_testEnd_j) {v_voidAt : (Nat → Int32)} {v_voidAt_j : (Nat → Int)} (t_v_voidAt : mA v_voidAt = v_voidAt_j) {x5 : Int32} {x5_j : Int} (t_x5 : mI x5 = x5_j) {v_knownAt : Int32} {v_knownAt_j : Int} (t_v_knownAt : mI v_knownAt = v_knownAt_j) {v_moved : Int32} {v_moved_j : Int} (t_v_moved : mI v_moved = v_moved_j) {v_without : Int32} {v_without_j : Int} (t_v_without : mI v_without = v_without_j) {v_best : (Nat → Int32)} {v_best_j : (Nat → Int)} (t_v_best : mA v_best = v_best_j) {v_cost : (Nat → Int32)} {v_cost_j : (Nat → Int)} (t_v_cost : mA v_cost = v_cost_j) {v_fits : (Nat → Int32)} {v_fits_j : (Nat → Int)} (t_v_fits : mA v_fits = v_fits_j) {v_mates : (Nat → Int32)} {v_mates_j : (Nat → Int)} (t_v_mates : mA v_mates = v_mates_j) {k225 : Int64 → Int64 → Int64 → Int32 → Int32 → Int32 → Int32 → Int64 → Int64 → Int64 → Int32 → Int32 → (Nat → Int64) → (Nat → Int64) → Option R_pM_slip} {k225_j : Int → Int → Int → Int → Int → Int → Int → Int → Int → Int → Int → Int → (Nat → Int) → (Nat → Int) → Option R_iM_slip} (t_k225 : ∀ (q0_ : Int64) (q1_ : Int64) (q2_ : Int64) (q3_ : Int32) (q4_ : Int32) (q5_ : Int32) (q6_ : Int32) (q7_ : Int64) (q8_ : Int64) (q9_ : Int64) (q10_ : Int32) (q11_ : Int32) (q12_ : (Nat → Int64)) (q13_ : (Nat → Int64)), tl (mP mI (mP mJ (mP mJ (mP mJ (mP mI (mP mI (mP mI (mP mI (mP mI (mP mI (mP mJ (mP mJ (mP mJ (mP mI (mP mI (mP mI (mP mA (mP mA (mP mA (mP mA (mP mL mL))))))))))))))))))))) (k225_j (mJ q0_) (mJ q1_) (mJ q2_) (mI q3_) (mI q4_) (mI q5_) (mI q6_) (mJ q7_) (mJ q8_) (mJ q9_) (mI q10_) (mI q11_) (mL q12_) (mL q13_)) (k225 q0_ q1_ q2_ q3_ q4_ q5_ q6_ q7_ q8_ q9_ q10_ q11_ q12_ q13_)) {self : Int32 → Int64 → Int64 → Int64 → Int32 → Int32 → Int32 → Int32 → Int64 → Int64 → Int64 → Int32 → Int32 → (Nat → Int64) → (Nat → Int64) → Option R_pM_slip} {self_j : Int → Int → Int → Int → Int → Int → Int → Int → Int → Int → Int → Int → Int → (Nat → Int) → (Nat → Int) → Option R_iM_slip} (t_self : ∀ (q0_ : Int32) (q1_ : Int64) (q2_ : Int64) (q3_ : Int64) (q4_ : Int32) (q5_ : Int32) (q6_ : Int32) (q7_ : Int32) (q8_ : Int64) (q9_ : Int64) (q10_ : Int64) (q11_ : Int32) (q12_ : Int32) (q13_ : (Nat → Int64)) (q14_ : (Nat → Int64)), tl (mP mI (mP mJ (mP mJ (mP mJ (mP mI (mP mI (mP mI (mP mI (mP mI (mP mI (mP mJ (mP mJ (mP mJ (mP mI (mP mI (mP mI (mP mA (mP mA (mP mA (mP mA (mP mL mL))))))))))))))))))))) (self_j (mI q0_) (mJ q1_) (mJ q2_) (mJ q3_) (mI q4_) (mI q5_) (mI q6_) (mI q7_) (mJ q8_) (mJ q9_) (mJ q10_) (mI q11_) (mI q12_) (mL q13_) (mL q14_)) (self q0_ q1_ q2_ q3_ q4_ q5_ q6_ q7_ q8_ q9_ q10_ q11_ q12_ q13_ q14_)) {x6 : Int32} {x6_j : Int} (t_x6 : mI x6 = x6_j) {v_allowed : Int64} {v_allowed_j : Int} (t_v_allowed : mJ v_allowed = v_allowed_j) {v_debt : Int64} {v_debt_j : Int} (t_v_debt : mJ v_debt = v_debt_j) {v_farms : Int64} {v_farms_j : Int} (t_v_farms : mJ v_farms = v_farms_j) {v_isBlanchedNow : Int32} {v_isBlanchedNow_j : Int} (t_v_isBlanchedNow : mI v_isBlanchedNow = v_isBlanchedNow_j) {v_movedAct : Int32} {v_movedAct_j : Int} (t_v_movedAct : mI v_movedAct = v_movedAct_j) {v_movedTerm : Int32} {v_movedTerm_j : Int} (t_v_movedTerm : mI v_movedTerm = v_movedTerm_j) {v_now : Int32} {v_now_j : Int} (t_v_now : mI v_now = v_now_j) {v_paid : Int64} {v_paid_j : Int} (t_v_paid : mJ v_paid = v_paid_j) {v_paidTold : Int64} {v_paidTold_j : Int} (t_v_paidTold : mJ v_paidTold = v_paidTold_j) {v_pardoned : Int64} {v_pardoned_j : Int} (t_v_pardoned : mJ v_pardoned = v_pardoned_j) {v_piled : Int32} {v_piled_j : Int} (t_v_piled : mI v_piled = v_piled_j) {v_shireNow : Int32} {v_shireNow_j : Int} (t_v_shireNow : mI v_shireNow = v_shireNow_j) {v_off : (Nat → Int64)} {v_off_j : (Nat → Int)} (t_v_off : mL v_off = v_off_j) {v_pile : (Nat → Int64)} {v_pile_j : (Nat → Int)} (t_v_pile : mL v_pile = v_pile_j) : tl (mP mI (mP mJ (mP mJ (mP mJ (mP mI (mP mI (mP mI (mP mI (mP mI (mP mI (mP mJ (mP mJ (mP mJ (mP mI (mP mI (mP mI (mP mA (mP mA (mP mA (mP mA (mP mL mL))))))))))))))))))))) (iM_slip_b165_F N_j a1_j a2_j a3_j v_acts_j v_as_j v_grain_j v_limit_j v_lost_j v_actKind_j v_actNumber_j v_actShire_j v_actTerm_j v_codes_j v_cutAt_j v_cutWorth_j v_cuts_j v_first_j v_isBlanched_j v_many_j v_pence_j v_second_j v_sort_j v_sumEnd_j v_sumFrom_j v_testEnd_j v_voidAt_j x5_j v_knownAt_j v_moved_j v_without_j v_best_j v_cost_j v_fits_j v_mates_j k225_j self_j x6_j v_allowed_j v_debt_j v_farms_j v_isBlanchedNow_j v_movedAct_j v_movedTerm_j v_now_j v_paid_j v_paidTold_j v_pardoned_j v_piled_j v_shireNow_j v_off_j v_pile_j) (pM_slip_b165_F N a1 a2 a3 v_acts v_as v_grain v_limit v_lost v_actKind v_actNumber v_actShire v_actTerm v_codes v_cutAt v_cutWorth v_cuts v_first v_isBlanched v_many v_pence v_second v_sort v_sumEnd v_sumFrom v_testEnd v_voidAt x5 v_knownAt v_moved v_without v_best v_cost v_fits v_mates k225 self x6 v_allowed v_debt v_farms v_isBlanchedNow v_movedAct v_movedTerm v_now v_paid v_paidTold v_pardoned v_piled v_shireNow v_off v_pile) := by
  subst t_N
  subst t_a1
  subst t_a2
  subst t_a3
  subst t_v_acts
  subst t_v_as
  subst t_v_grain
  subst t_v_limit
  subst t_v_lost
  subst t_v_actKind
  subst t_v_actNumber
  subst t_v_actShire
  subst t_v_actTerm
  subst t_v_codes
  subst t_v_cutAt
  subst t_v_cutWorth
  subst t_v_cuts
  subst t_v_first
  subst t_v_isBlanched
  subst t_v_many
  subst t_v_pence
  subst t_v_second
  subst t_v_sort
  subst t_v_sumEnd
  subst t_v_sumFrom
  subst t_v_testEnd
  subst t_v_voidAt
  subst t_x5
  subst t_v_knownAt
  subst t_v_moved
  subst t_v_without
  subst t_v_best
  subst t_v_cost
  subst t_v_fits
  subst t_v_mates
  subst t_x6
  subst t_v_allowed
  subst t_v_debt
  subst t_v_farms
  subst t_v_isBlanchedNow
  subst t_v_movedAct
  subst t_v_movedTerm
  subst t_v_now
  subst t_v_paid
  subst t_v_paidTold
  subst t_v_pardoned
  subst t_v_piled
  subst t_v_shireNow
  subst t_v_off
  subst t_v_pile
  unfold iM_slip_b165_F pM_slip_b165_F
  refine tl_ite (jc_le jlitI_40 (Eq.refl (mI x6))) ?_ ?_
  · exact (tl_e14 (Eq.refl (mJ v_allowed)) (Eq.refl (mJ v_debt)) (Eq.refl (mJ v_farms)) (Eq.refl (mI v_isBlanchedNow)) (Eq.refl (mI v_movedAct)) (Eq.refl (mI v_movedTerm)) (Eq.refl (mI v_now)) (Eq.refl (mJ v_paid)) (Eq.refl (mJ v_paidTold)) (Eq.refl (mJ v_pardoned)) (Eq.refl (mI v_piled)) (Eq.refl (mI v_shireNow)) (Eq.refl (mL v_off)) (Eq.refl (mL v_pile)) (t_k225 _ _ _ _ _ _ _ _ _ _ _ _ _ _))
  · refine tl_gd (jg_ib (Eq.refl (mI x5))) (fun _ => ?_)
    refine tl_ite (jc_eq (Eq.refl (mI x6)) (jrd (Eq.refl (mA v_actTerm)) (jx (Eq.refl (mI x5))))) ?_ ?_
    · refine tl_g (fun h1 => ?_)
      exact (tl_e15 (ja_add (Eq.refl (mI x6)) jlitI_1 h1) (Eq.refl (mJ v_allowed)) (Eq.refl (mJ v_debt)) (Eq.refl (mJ v_farms)) (Eq.refl (mI v_isBlanchedNow)) (Eq.refl (mI x5)) (Eq.refl (mI x6)) (Eq.refl (mI v_now)) (Eq.refl (mJ v_paid)) (Eq.refl (mJ v_paidTold)) (Eq.refl (mJ v_pardoned)) (Eq.refl (mI v_piled)) (Eq.refl (mI v_shireNow)) (Eq.refl (mL v_off)) (Eq.refl (mL v_pile)) (t_self _ _ _ _ _ _ _ _ _ _ _ _ _ _ _))
    · refine tl_bd13 (t_pM_rolls (Eq.refl N) (Eq.refl (mI a1)) (Eq.refl (mI a2)) (Eq.refl (mI v_acts)) (Eq.refl (mJ v_allowed)) (Eq.refl (mJ v_debt)) (Eq.refl (mJ v_farms)) (Eq.refl (mI v_isBlanchedNow)) (Eq.refl (mI v_knownAt)) (Eq.refl (mI x5)) (Eq.refl (mI x6)) (Eq.refl (mI v_now)) (Eq.refl (mJ v_paid)) (Eq.refl (mJ v_paidTold)) (Eq.refl (mJ v_pardoned)) (Eq.refl (mI v_piled)) (Eq.refl (mI v_shireNow)) (Eq.refl (mI v_without)) (Eq.refl (mA v_actKind)) (Eq.refl (mA v_actNumber)) (Eq.refl (mA v_actShire)) (Eq.refl (mA v_actTerm)) (Eq.refl (mA v_codes)) (Eq.refl (mA v_cutWorth)) (Eq.refl (mA v_cuts)) (Eq.refl (mA v_first)) (Eq.refl (mA v_isBlanched)) (Eq.refl (mA v_many)) (Eq.refl (mA v_mates)) (Eq.refl (mL v_off)) (Eq.refl (mA v_pence)) (Eq.refl (mL v_pile)) (Eq.refl (mA v_second)) (Eq.refl (mA v_sort)) (Eq.refl (mA v_sumEnd)) (Eq.refl (mA v_sumFrom)) (Eq.refl (mA v_testEnd)) (Eq.refl (mA v_voidAt))) (fun rc14 v_allowed_c14 v_debt_c14 v_farms_c14 v_isBlanchedNow_c14 v_now_c14 v_paid_c14 v_paidTold_c14 v_pardoned_c14 v_piled_c14 v_shireNow_c14 v_off_c14 v_pile_c14 => ?_)
      refine tl_ite (jk_eq (Eq.refl (mJ rc14)) (Eq.refl (mJ a3))) ?_ ?_
      · exact (tl_some (jp2 (Eq.refl (mI x5)) (jp2 (Eq.refl (mJ v_allowed_c14)) (jp2 (Eq.refl (mJ v_debt_c14)) (jp2 (Eq.refl (mJ v_farms_c14)) (jp2 (Eq.refl (mI v_isBlanchedNow_c14)) (jp2 (Eq.refl (mI v_knownAt)) (jp2 (Eq.refl (mI x6)) (jp2 (Eq.refl (mI x5)) (jp2 (Eq.refl (mI x6)) (jp2 (Eq.refl (mI v_now_c14)) (jp2 (Eq.refl (mJ v_paid_c14)) (jp2 (Eq.refl (mJ v_paidTold_c14)) (jp2 (Eq.refl (mJ v_pardoned_c14)) (jp2 (Eq.refl (mI v_piled_c14)) (jp2 (Eq.refl (mI v_shireNow_c14)) (jp2 (Eq.refl (mI v_without)) (jp2 (Eq.refl (mA v_best)) (jp2 (Eq.refl (mA v_cost)) (jp2 (Eq.refl (mA v_fits)) (jp2 (Eq.refl (mA v_mates)) (jp2 (Eq.refl (mL v_off_c14)) (Eq.refl (mL v_pile_c14))))))))))))))))))))))))
      · refine tl_g (fun h2 => ?_)
        exact (tl_e15 (ja_add (Eq.refl (mI x6)) jlitI_1 h2) (Eq.refl (mJ v_allowed_c14)) (Eq.refl (mJ v_debt_c14)) (Eq.refl (mJ v_farms_c14)) (Eq.refl (mI v_isBlanchedNow_c14)) (Eq.refl (mI x5)) (Eq.refl (mI x6)) (Eq.refl (mI v_now_c14)) (Eq.refl (mJ v_paid_c14)) (Eq.refl (mJ v_paidTold_c14)) (Eq.refl (mJ v_pardoned_c14)) (Eq.refl (mI v_piled_c14)) (Eq.refl (mI v_shireNow_c14)) (Eq.refl (mL v_off_c14)) (Eq.refl (mL v_pile_c14)) (t_self _ _ _ _ _ _ _ _ _ _ _ _ _ _ _))
theorem t_pM_slip_b165 {N N_j : Nat} (t_N : N = N_j) {a1 : Int32} {a1_j : Int} (t_a1 : mI a1 = a1_j) {a2 : Int32} {a2_j : Int} (t_a2 : mI a2 = a2_j) {a3 : Int64} {a3_j : Int} (t_a3 : mJ a3 = a3_j) {v_acts : Int32} {v_acts_j : Int} (t_v_acts : mI v_acts = v_acts_j) {v_as : Int32} {v_as_j : Int} (t_v_as : mI v_as = v_as_j) {v_grain : Int32} {v_grain_j : Int} (t_v_grain : mI v_grain = v_grain_j) {v_limit : Int32} {v_limit_j : Int} (t_v_limit : mI v_limit = v_limit_j) {v_lost : Int32} {v_lost_j : Int} (t_v_lost : mI v_lost = v_lost_j) {v_actKind : (Nat → Int32)} {v_actKind_j : (Nat → Int)} (t_v_actKind : mA v_actKind = v_actKind_j) {v_actNumber : (Nat → Int32)} {v_actNumber_j : (Nat → Int)} (t_v_actNumber : mA v_actNumber = v_actNumber_j) {v_actShire : (Nat → Int32)} {v_actShire_j : (Nat → Int)} (t_v_actShire : mA v_actShire = v_actShire_j) {v_actTerm : (Nat → Int32)} {v_actTerm_j : (Nat → Int)} (t_v_actTerm : mA v_actTerm = v_actTerm_j) {v_codes : (Nat → Int32)} {v_codes_j : (Nat → Int)} (t_v_codes : mA v_codes = v_codes_j) {v_cutAt : (Nat → Int32)} {v_cutAt_j : (Nat → Int)} (t_v_cutAt : mA v_cutAt = v_cutAt_j) {v_cutWorth : (Nat → Int32)} {v_cutWorth_j : (Nat → Int)} (t_v_cutWorth : mA v_cutWorth = v_cutWorth_j) {v_cuts : (Nat → Int32)} {v_cuts_j : (Nat → Int)} (t_v_cuts : mA v_cuts = v_cuts_j) {v_first : (Nat → Int32)} {v_first_j : (Nat → Int)} (t_v_first : mA v_first = v_first_j) {v_isBlanched : (Nat → Int32)} {v_isBlanched_j : (Nat → Int)} (t_v_isBlanched : mA v_isBlanched = v_isBlanched_j) {v_many : (Nat → Int32)} {v_many_j : (Nat → Int)} (t_v_many : mA v_many = v_many_j) {v_pence : (Nat → Int32)} {v_pence_j : (Nat → Int)} (t_v_pence : mA v_pence = v_pence_j) {v_second : (Nat → Int32)} {v_second_j : (Nat → Int)} (t_v_second : mA v_second = v_second_j) {v_sort : (Nat → Int32)} {v_sort_j : (Nat → Int)} (t_v_sort : mA v_sort = v_sort_j) {v_sumEnd : (Nat → Int32)} {v_sumEnd_j : (Nat → Int)} (t_v_sumEnd : mA v_sumEnd = v_sumEnd_j) {v_sumFrom : (Nat → Int32)} {v_sumFrom_j : (Nat → Int)} (t_v_sumFrom : mA v_sumFrom = v_sumFrom_j) {v_testEnd : (Nat → Int32)} {v_testEnd_j : (Nat → Int)} (t_v_testEnd : mA v_testEnd = v_testEnd_j) {v_voidAt : (Nat → Int32)} {v_voidAt_j : (Nat → Int)} (t_v_voidAt : mA v_voidAt = v_voidAt_j) {x5 : Int32} {x5_j : Int} (t_x5 : mI x5 = x5_j) {v_knownAt : Int32} {v_knownAt_j : Int} (t_v_knownAt : mI v_knownAt = v_knownAt_j) {v_moved : Int32} {v_moved_j : Int} (t_v_moved : mI v_moved = v_moved_j) {v_without : Int32} {v_without_j : Int} (t_v_without : mI v_without = v_without_j) {v_best : (Nat → Int32)} {v_best_j : (Nat → Int)} (t_v_best : mA v_best = v_best_j) {v_cost : (Nat → Int32)} {v_cost_j : (Nat → Int)} (t_v_cost : mA v_cost = v_cost_j) {v_fits : (Nat → Int32)} {v_fits_j : (Nat → Int)} (t_v_fits : mA v_fits = v_fits_j) {v_mates : (Nat → Int32)} {v_mates_j : (Nat → Int)} (t_v_mates : mA v_mates = v_mates_j) {k225 : Int64 → Int64 → Int64 → Int32 → Int32 → Int32 → Int32 → Int64 → Int64 → Int64 → Int32 → Int32 → (Nat → Int64) → (Nat → Int64) → Option R_pM_slip} {k225_j : Int → Int → Int → Int → Int → Int → Int → Int → Int → Int → Int → Int → (Nat → Int) → (Nat → Int) → Option R_iM_slip} (t_k225 : ∀ (q0_ : Int64) (q1_ : Int64) (q2_ : Int64) (q3_ : Int32) (q4_ : Int32) (q5_ : Int32) (q6_ : Int32) (q7_ : Int64) (q8_ : Int64) (q9_ : Int64) (q10_ : Int32) (q11_ : Int32) (q12_ : (Nat → Int64)) (q13_ : (Nat → Int64)), tl (mP mI (mP mJ (mP mJ (mP mJ (mP mI (mP mI (mP mI (mP mI (mP mI (mP mI (mP mJ (mP mJ (mP mJ (mP mI (mP mI (mP mI (mP mA (mP mA (mP mA (mP mA (mP mL mL))))))))))))))))))))) (k225_j (mJ q0_) (mJ q1_) (mJ q2_) (mI q3_) (mI q4_) (mI q5_) (mI q6_) (mJ q7_) (mJ q8_) (mJ q9_) (mI q10_) (mI q11_) (mL q12_) (mL q13_)) (k225 q0_ q1_ q2_ q3_ q4_ q5_ q6_ q7_ q8_ q9_ q10_ q11_ q12_ q13_)) {n n_j : Nat} (t_n : n = n_j) {w0_ : Int32} {w0__j : Int} (t_w0_ : mI w0_ = w0__j) {w1_ : Int64} {w1__j : Int} (t_w1_ : mJ w1_ = w1__j) {w2_ : Int64} {w2__j : Int} (t_w2_ : mJ w2_ = w2__j) {w3_ : Int64} {w3__j : Int} (t_w3_ : mJ w3_ = w3__j) {w4_ : Int32} {w4__j : Int} (t_w4_ : mI w4_ = w4__j) {w5_ : Int32} {w5__j : Int} (t_w5_ : mI w5_ = w5__j) {w6_ : Int32} {w6__j : Int} (t_w6_ : mI w6_ = w6__j) {w7_ : Int32} {w7__j : Int} (t_w7_ : mI w7_ = w7__j) {w8_ : Int64} {w8__j : Int} (t_w8_ : mJ w8_ = w8__j) {w9_ : Int64} {w9__j : Int} (t_w9_ : mJ w9_ = w9__j) {w10_ : Int64} {w10__j : Int} (t_w10_ : mJ w10_ = w10__j) {w11_ : Int32} {w11__j : Int} (t_w11_ : mI w11_ = w11__j) {w12_ : Int32} {w12__j : Int} (t_w12_ : mI w12_ = w12__j) {w13_ : (Nat → Int64)} {w13__j : (Nat → Int)} (t_w13_ : mL w13_ = w13__j) {w14_ : (Nat → Int64)} {w14__j : (Nat → Int)} (t_w14_ : mL w14_ = w14__j) : tl (mP mI (mP mJ (mP mJ (mP mJ (mP mI (mP mI (mP mI (mP mI (mP mI (mP mI (mP mJ (mP mJ (mP mJ (mP mI (mP mI (mP mI (mP mA (mP mA (mP mA (mP mA (mP mL mL))))))))))))))))))))) (iM_slip_b165 N_j a1_j a2_j a3_j v_acts_j v_as_j v_grain_j v_limit_j v_lost_j v_actKind_j v_actNumber_j v_actShire_j v_actTerm_j v_codes_j v_cutAt_j v_cutWorth_j v_cuts_j v_first_j v_isBlanched_j v_many_j v_pence_j v_second_j v_sort_j v_sumEnd_j v_sumFrom_j v_testEnd_j v_voidAt_j x5_j v_knownAt_j v_moved_j v_without_j v_best_j v_cost_j v_fits_j v_mates_j k225_j n_j w0__j w1__j w2__j w3__j w4__j w5__j w6__j w7__j w8__j w9__j w10__j w11__j w12__j w13__j w14__j) (pM_slip_b165 N a1 a2 a3 v_acts v_as v_grain v_limit v_lost v_actKind v_actNumber v_actShire v_actTerm v_codes v_cutAt v_cutWorth v_cuts v_first v_isBlanched v_many v_pence v_second v_sort v_sumEnd v_sumFrom v_testEnd v_voidAt x5 v_knownAt v_moved v_without v_best v_cost v_fits v_mates k225 n w0_ w1_ w2_ w3_ w4_ w5_ w6_ w7_ w8_ w9_ w10_ w11_ w12_ w13_ w14_) := by
  subst t_N
  subst t_a1
  subst t_a2
  subst t_a3
  subst t_v_acts
  subst t_v_as
  subst t_v_grain
  subst t_v_limit
  subst t_v_lost
  subst t_v_actKind
  subst t_v_actNumber
  subst t_v_actShire
  subst t_v_actTerm
  subst t_v_codes
  subst t_v_cutAt
  subst t_v_cutWorth
  subst t_v_cuts
  subst t_v_first
  subst t_v_isBlanched
  subst t_v_many
  subst t_v_pence
  subst t_v_second
  subst t_v_sort
  subst t_v_sumEnd
  subst t_v_sumFrom
  subst t_v_testEnd
  subst t_v_voidAt
  subst t_x5
  subst t_v_knownAt
  subst t_v_moved
  subst t_v_without
  subst t_v_best
  subst t_v_cost
  subst t_v_fits
  subst t_v_mates
  subst t_n
  subst t_w0_
  subst t_w1_
  subst t_w2_
  subst t_w3_
  subst t_w4_
  subst t_w5_
  subst t_w6_
  subst t_w7_
  subst t_w8_
  subst t_w9_
  subst t_w10_
  subst t_w11_
  subst t_w12_
  subst t_w13_
  subst t_w14_
  exact tl_zlp15 (fun s2 s hs w0_ w1_ w2_ w3_ w4_ w5_ w6_ w7_ w8_ w9_ w10_ w11_ w12_ w13_ w14_ => t_pM_slip_b165_F (Eq.refl N) (Eq.refl (mI a1)) (Eq.refl (mI a2)) (Eq.refl (mJ a3)) (Eq.refl (mI v_acts)) (Eq.refl (mI v_as)) (Eq.refl (mI v_grain)) (Eq.refl (mI v_limit)) (Eq.refl (mI v_lost)) (Eq.refl (mA v_actKind)) (Eq.refl (mA v_actNumber)) (Eq.refl (mA v_actShire)) (Eq.refl (mA v_actTerm)) (Eq.refl (mA v_codes)) (Eq.refl (mA v_cutAt)) (Eq.refl (mA v_cutWorth)) (Eq.refl (mA v_cuts)) (Eq.refl (mA v_first)) (Eq.refl (mA v_isBlanched)) (Eq.refl (mA v_many)) (Eq.refl (mA v_pence)) (Eq.refl (mA v_second)) (Eq.refl (mA v_sort)) (Eq.refl (mA v_sumEnd)) (Eq.refl (mA v_sumFrom)) (Eq.refl (mA v_testEnd)) (Eq.refl (mA v_voidAt)) (Eq.refl (mI x5)) (Eq.refl (mI v_knownAt)) (Eq.refl (mI v_moved)) (Eq.refl (mI v_without)) (Eq.refl (mA v_best)) (Eq.refl (mA v_cost)) (Eq.refl (mA v_fits)) (Eq.refl (mA v_mates)) t_k225 hs (Eq.refl (mI w0_)) (Eq.refl (mJ w1_)) (Eq.refl (mJ w2_)) (Eq.refl (mJ w3_)) (Eq.refl (mI w4_)) (Eq.refl (mI w5_)) (Eq.refl (mI w6_)) (Eq.refl (mI w7_)) (Eq.refl (mJ w8_)) (Eq.refl (mJ w9_)) (Eq.refl (mJ w10_)) (Eq.refl (mI w11_)) (Eq.refl (mI w12_)) (Eq.refl (mL w13_)) (Eq.refl (mL w14_))) n w0_ w1_ w2_ w3_ w4_ w5_ w6_ w7_ w8_ w9_ w10_ w11_ w12_ w13_ w14_
theorem t_pM_slip_b121_F {N N_j : Nat} (t_N : N = N_j) {a1 : Int32} {a1_j : Int} (t_a1 : mI a1 = a1_j) {a2 : Int32} {a2_j : Int} (t_a2 : mI a2 = a2_j) {a3 : Int64} {a3_j : Int} (t_a3 : mJ a3 = a3_j) {v_acts : Int32} {v_acts_j : Int} (t_v_acts : mI v_acts = v_acts_j) {v_as : Int32} {v_as_j : Int} (t_v_as : mI v_as = v_as_j) {v_grain : Int32} {v_grain_j : Int} (t_v_grain : mI v_grain = v_grain_j) {v_limit : Int32} {v_limit_j : Int} (t_v_limit : mI v_limit = v_limit_j) {v_lost : Int32} {v_lost_j : Int} (t_v_lost : mI v_lost = v_lost_j) {v_actKind : (Nat → Int32)} {v_actKind_j : (Nat → Int)} (t_v_actKind : mA v_actKind = v_actKind_j) {v_actNumber : (Nat → Int32)} {v_actNumber_j : (Nat → Int)} (t_v_actNumber : mA v_actNumber = v_actNumber_j) {v_actShire : (Nat → Int32)} {v_actShire_j : (Nat → Int)} (t_v_actShire : mA v_actShire = v_actShire_j) {v_actTerm : (Nat → Int32)} {v_actTerm_j : (Nat → Int)} (t_v_actTerm : mA v_actTerm = v_actTerm_j) {v_codes : (Nat → Int32)} {v_codes_j : (Nat → Int)} (t_v_codes : mA v_codes = v_codes_j) {v_cutAt : (Nat → Int32)} {v_cutAt_j : (Nat → Int)} (t_v_cutAt : mA v_cutAt = v_cutAt_j) {v_cutWorth : (Nat → Int32)} {v_cutWorth_j : (Nat → Int)} (t_v_cutWorth : mA v_cutWorth = v_cutWorth_j) {v_cuts : (Nat → Int32)} {v_cuts_j : (Nat → Int)} (t_v_cuts : mA v_cuts = v_cuts_j) {v_first : (Nat → Int32)} {v_first_j : (Nat → Int)} (t_v_first : mA v_first = v_first_j) {v_isBlanched : (Nat → Int32)} {v_isBlanched_j : (Nat → Int)} (t_v_isBlanched : mA v_isBlanched = v_isBlanched_j) {v_many : (Nat → Int32)} {v_many_j : (Nat → Int)} (t_v_many : mA v_many = v_many_j) {v_pence : (Nat → Int32)} {v_pence_j : (Nat → Int)} (t_v_pence : mA v_pence = v_pence_j) {v_second : (Nat → Int32)} {v_second_j : (Nat → Int)} (t_v_second : mA v_second = v_second_j) {v_sort : (Nat → Int32)} {v_sort_j : (Nat → Int)} (t_v_sort : mA v_sort = v_sort_j) {v_sumEnd : (Nat → Int32)} {v_sumEnd_j : (Nat → Int)} (t_v_sumEnd : mA v_sumEnd = v_sumEnd_j) {v_sumFrom : (Nat → Int32)} {v_sumFrom_j : (Nat → Int)} (t_v_sumFrom : mA v_sumFrom = v_sumFrom_j) {v_testEnd : (Nat → Int32)} {v_testEnd_j : (Nat → Int)} (t_v_testEnd : mA v_testEnd = v_testEnd_j) {v_voidAt : (Nat → Int32)} {v_voidAt_j : (Nat → Int)} (t_v_voidAt : mA v_voidAt = v_voidAt_j) {v_knownAt : Int32} {v_knownAt_j : Int} (t_v_knownAt : mI v_knownAt = v_knownAt_j) {v_moved : Int32} {v_moved_j : Int} (t_v_moved : mI v_moved = v_moved_j) {v_without : Int32} {v_without_j : Int} (t_v_without : mI v_without = v_without_j) {v_best : (Nat → Int32)} {v_best_j : (Nat → Int)} (t_v_best : mA v_best = v_best_j) {v_cost : (Nat → Int32)} {v_cost_j : (Nat → Int)} (t_v_cost : mA v_cost = v_cost_j) {v_fits : (Nat → Int32)} {v_fits_j : (Nat → Int)} (t_v_fits : mA v_fits = v_fits_j) {v_mates : (Nat → Int32)} {v_mates_j : (Nat → Int)} (t_v_mates : mA v_mates = v_mates_j) {self : Int32 → Int64 → Int64 → Int64 → Int32 → Int32 → Int32 → Int32 → Int64 → Int64 → Int64 → Int32 → Int32 → (Nat → Int64) → (Nat → Int64) → Option R_pM_slip} {self_j : Int → Int → Int → Int → Int → Int → Int → Int → Int → Int → Int → Int → Int → (Nat → Int) → (Nat → Int) → Option R_iM_slip} (t_self : ∀ (q0_ : Int32) (q1_ : Int64) (q2_ : Int64) (q3_ : Int64) (q4_ : Int32) (q5_ : Int32) (q6_ : Int32) (q7_ : Int32) (q8_ : Int64) (q9_ : Int64) (q10_ : Int64) (q11_ : Int32) (q12_ : Int32) (q13_ : (Nat → Int64)) (q14_ : (Nat → Int64)), tl (mP mI (mP mJ (mP mJ (mP mJ (mP mI (mP mI (mP mI (mP mI (mP mI (mP mI (mP mJ (mP mJ (mP mJ (mP mI (mP mI (mP mI (mP mA (mP mA (mP mA (mP mA (mP mL mL))))))))))))))))))))) (self_j (mI q0_) (mJ q1_) (mJ q2_) (mJ q3_) (mI q4_) (mI q5_) (mI q6_) (mI q7_) (mJ q8_) (mJ q9_) (mJ q10_) (mI q11_) (mI q12_) (mL q13_) (mL q14_)) (self q0_ q1_ q2_ q3_ q4_ q5_ q6_ q7_ q8_ q9_ q10_ q11_ q12_ q13_ q14_)) {x5 : Int32} {x5_j : Int} (t_x5 : mI x5 = x5_j) {v_allowed : Int64} {v_allowed_j : Int} (t_v_allowed : mJ v_allowed = v_allowed_j) {v_debt : Int64} {v_debt_j : Int} (t_v_debt : mJ v_debt = v_debt_j) {v_farms : Int64} {v_farms_j : Int} (t_v_farms : mJ v_farms = v_farms_j) {v_isBlanchedNow : Int32} {v_isBlanchedNow_j : Int} (t_v_isBlanchedNow : mI v_isBlanchedNow = v_isBlanchedNow_j) {v_movedAct : Int32} {v_movedAct_j : Int} (t_v_movedAct : mI v_movedAct = v_movedAct_j) {v_movedTerm : Int32} {v_movedTerm_j : Int} (t_v_movedTerm : mI v_movedTerm = v_movedTerm_j) {v_now : Int32} {v_now_j : Int} (t_v_now : mI v_now = v_now_j) {v_paid : Int64} {v_paid_j : Int} (t_v_paid : mJ v_paid = v_paid_j) {v_paidTold : Int64} {v_paidTold_j : Int} (t_v_paidTold : mJ v_paidTold = v_paidTold_j) {v_pardoned : Int64} {v_pardoned_j : Int} (t_v_pardoned : mJ v_pardoned = v_pardoned_j) {v_piled : Int32} {v_piled_j : Int} (t_v_piled : mI v_piled = v_piled_j) {v_shireNow : Int32} {v_shireNow_j : Int} (t_v_shireNow : mI v_shireNow = v_shireNow_j) {v_off : (Nat → Int64)} {v_off_j : (Nat → Int)} (t_v_off : mL v_off = v_off_j) {v_pile : (Nat → Int64)} {v_pile_j : (Nat → Int)} (t_v_pile : mL v_pile = v_pile_j) : tl (mP mI (mP mJ (mP mJ (mP mJ (mP mI (mP mI (mP mI (mP mI (mP mI (mP mI (mP mJ (mP mJ (mP mJ (mP mI (mP mI (mP mI (mP mA (mP mA (mP mA (mP mA (mP mL mL))))))))))))))))))))) (iM_slip_b121_F N_j a1_j a2_j a3_j v_acts_j v_as_j v_grain_j v_limit_j v_lost_j v_actKind_j v_actNumber_j v_actShire_j v_actTerm_j v_codes_j v_cutAt_j v_cutWorth_j v_cuts_j v_first_j v_isBlanched_j v_many_j v_pence_j v_second_j v_sort_j v_sumEnd_j v_sumFrom_j v_testEnd_j v_voidAt_j v_knownAt_j v_moved_j v_without_j v_best_j v_cost_j v_fits_j v_mates_j self_j x5_j v_allowed_j v_debt_j v_farms_j v_isBlanchedNow_j v_movedAct_j v_movedTerm_j v_now_j v_paid_j v_paidTold_j v_pardoned_j v_piled_j v_shireNow_j v_off_j v_pile_j) (pM_slip_b121_F N a1 a2 a3 v_acts v_as v_grain v_limit v_lost v_actKind v_actNumber v_actShire v_actTerm v_codes v_cutAt v_cutWorth v_cuts v_first v_isBlanched v_many v_pence v_second v_sort v_sumEnd v_sumFrom v_testEnd v_voidAt v_knownAt v_moved v_without v_best v_cost v_fits v_mates self x5 v_allowed v_debt v_farms v_isBlanchedNow v_movedAct v_movedTerm v_now v_paid v_paidTold v_pardoned v_piled v_shireNow v_off v_pile) := by
  subst t_N
  subst t_a1
  subst t_a2
  subst t_a3
  subst t_v_acts
  subst t_v_as
  subst t_v_grain
  subst t_v_limit
  subst t_v_lost
  subst t_v_actKind
  subst t_v_actNumber
  subst t_v_actShire
  subst t_v_actTerm
  subst t_v_codes
  subst t_v_cutAt
  subst t_v_cutWorth
  subst t_v_cuts
  subst t_v_first
  subst t_v_isBlanched
  subst t_v_many
  subst t_v_pence
  subst t_v_second
  subst t_v_sort
  subst t_v_sumEnd
  subst t_v_sumFrom
  subst t_v_testEnd
  subst t_v_voidAt
  subst t_v_knownAt
  subst t_v_moved
  subst t_v_without
  subst t_v_best
  subst t_v_cost
  subst t_v_fits
  subst t_v_mates
  subst t_x5
  subst t_v_allowed
  subst t_v_debt
  subst t_v_farms
  subst t_v_isBlanchedNow
  subst t_v_movedAct
  subst t_v_movedTerm
  subst t_v_now
  subst t_v_paid
  subst t_v_paidTold
  subst t_v_pardoned
  subst t_v_piled
  subst t_v_shireNow
  subst t_v_off
  subst t_v_pile
  unfold iM_slip_b121_F pM_slip_b121_F
  refine tl_ite (jc_lt (Eq.refl (mI v_acts)) (Eq.refl (mI x5))) ?_ ?_
  · exact (tl_some (jp2 jlitI_m1 (jp2 (Eq.refl (mJ v_allowed)) (jp2 (Eq.refl (mJ v_debt)) (jp2 (Eq.refl (mJ v_farms)) (jp2 (Eq.refl (mI v_isBlanchedNow)) (jp2 (Eq.refl (mI v_knownAt)) (jp2 (Eq.refl (mI v_moved)) (jp2 (Eq.refl (mI v_movedAct)) (jp2 (Eq.refl (mI v_movedTerm)) (jp2 (Eq.refl (mI v_now)) (jp2 (Eq.refl (mJ v_paid)) (jp2 (Eq.refl (mJ v_paidTold)) (jp2 (Eq.refl (mJ v_pardoned)) (jp2 (Eq.refl (mI v_piled)) (jp2 (Eq.refl (mI v_shireNow)) (jp2 (Eq.refl (mI v_without)) (jp2 (Eq.refl (mA v_best)) (jp2 (Eq.refl (mA v_cost)) (jp2 (Eq.refl (mA v_fits)) (jp2 (Eq.refl (mA v_mates)) (jp2 (Eq.refl (mL v_off)) (Eq.refl (mL v_pile))))))))))))))))))))))))
  · refine tl_bd1 (t_pM_isPayment (Eq.refl (mI x5)) (Eq.refl (mA v_actKind))) (fun rc10 => ?_)
    refine tl_ite (jc_eq (Eq.refl (mI rc10)) jlitI_0) ?_ ?_
    · exact (t_pM_slip_b225 (Eq.refl N) (Eq.refl (mI a1)) (Eq.refl (mI a2)) (Eq.refl (mJ a3)) (Eq.refl (mI v_acts)) (Eq.refl (mI v_as)) (Eq.refl (mI v_grain)) (Eq.refl (mI v_limit)) (Eq.refl (mI v_lost)) (Eq.refl (mA v_actKind)) (Eq.refl (mA v_actNumber)) (Eq.refl (mA v_actShire)) (Eq.refl (mA v_actTerm)) (Eq.refl (mA v_codes)) (Eq.refl (mA v_cutAt)) (Eq.refl (mA v_cutWorth)) (Eq.refl (mA v_cuts)) (Eq.refl (mA v_first)) (Eq.refl (mA v_isBlanched)) (Eq.refl (mA v_many)) (Eq.refl (mA v_pence)) (Eq.refl (mA v_second)) (Eq.refl (mA v_sort)) (Eq.refl (mA v_sumEnd)) (Eq.refl (mA v_sumFrom)) (Eq.refl (mA v_testEnd)) (Eq.refl (mA v_voidAt)) t_self (Eq.refl (mI x5)) (Eq.refl (mJ v_allowed)) (Eq.refl (mJ v_debt)) (Eq.refl (mJ v_farms)) (Eq.refl (mI v_isBlanchedNow)) (Eq.refl (mI v_knownAt)) (Eq.refl (mI v_moved)) (Eq.refl (mI v_movedAct)) (Eq.refl (mI v_movedTerm)) (Eq.refl (mI v_now)) (Eq.refl (mJ v_paid)) (Eq.refl (mJ v_paidTold)) (Eq.refl (mJ v_pardoned)) (Eq.refl (mI v_piled)) (Eq.refl (mI v_shireNow)) (Eq.refl (mI v_without)) (Eq.refl (mA v_best)) (Eq.refl (mA v_cost)) (Eq.refl (mA v_fits)) (Eq.refl (mA v_mates)) (Eq.refl (mL v_off)) (Eq.refl (mL v_pile)))
    · refine tl_bd1 (t_pM_isKnown (Eq.refl (mI x5)) (Eq.refl (mI v_knownAt)) (Eq.refl (mI v_without)) (Eq.refl (mA v_voidAt))) (fun rc11 => ?_)
      refine tl_ite (jc_eq (Eq.refl (mI rc11)) jlitI_0) ?_ ?_
      · exact (t_pM_slip_b225 (Eq.refl N) (Eq.refl (mI a1)) (Eq.refl (mI a2)) (Eq.refl (mJ a3)) (Eq.refl (mI v_acts)) (Eq.refl (mI v_as)) (Eq.refl (mI v_grain)) (Eq.refl (mI v_limit)) (Eq.refl (mI v_lost)) (Eq.refl (mA v_actKind)) (Eq.refl (mA v_actNumber)) (Eq.refl (mA v_actShire)) (Eq.refl (mA v_actTerm)) (Eq.refl (mA v_codes)) (Eq.refl (mA v_cutAt)) (Eq.refl (mA v_cutWorth)) (Eq.refl (mA v_cuts)) (Eq.refl (mA v_first)) (Eq.refl (mA v_isBlanched)) (Eq.refl (mA v_many)) (Eq.refl (mA v_pence)) (Eq.refl (mA v_second)) (Eq.refl (mA v_sort)) (Eq.refl (mA v_sumEnd)) (Eq.refl (mA v_sumFrom)) (Eq.refl (mA v_testEnd)) (Eq.refl (mA v_voidAt)) t_self (Eq.refl (mI x5)) (Eq.refl (mJ v_allowed)) (Eq.refl (mJ v_debt)) (Eq.refl (mJ v_farms)) (Eq.refl (mI v_isBlanchedNow)) (Eq.refl (mI v_knownAt)) (Eq.refl (mI v_moved)) (Eq.refl (mI v_movedAct)) (Eq.refl (mI v_movedTerm)) (Eq.refl (mI v_now)) (Eq.refl (mJ v_paid)) (Eq.refl (mJ v_paidTold)) (Eq.refl (mJ v_pardoned)) (Eq.refl (mI v_piled)) (Eq.refl (mI v_shireNow)) (Eq.refl (mI v_without)) (Eq.refl (mA v_best)) (Eq.refl (mA v_cost)) (Eq.refl (mA v_fits)) (Eq.refl (mA v_mates)) (Eq.refl (mL v_off)) (Eq.refl (mL v_pile)))
      · refine tl_gd (jg_ib (Eq.refl (mI x5))) (fun _ => ?_)
        refine tl_ite (jc_eq (jrd (Eq.refl (mA v_actShire)) (jx (Eq.refl (mI x5)))) (Eq.refl (mI a1))) ?_ ?_
        · exact (t_pM_slip_b165 (Eq.refl N) (Eq.refl (mI a1)) (Eq.refl (mI a2)) (Eq.refl (mJ a3)) (Eq.refl (mI v_acts)) (Eq.refl (mI v_as)) (Eq.refl (mI v_grain)) (Eq.refl (mI v_limit)) (Eq.refl (mI v_lost)) (Eq.refl (mA v_actKind)) (Eq.refl (mA v_actNumber)) (Eq.refl (mA v_actShire)) (Eq.refl (mA v_actTerm)) (Eq.refl (mA v_codes)) (Eq.refl (mA v_cutAt)) (Eq.refl (mA v_cutWorth)) (Eq.refl (mA v_cuts)) (Eq.refl (mA v_first)) (Eq.refl (mA v_isBlanched)) (Eq.refl (mA v_many)) (Eq.refl (mA v_pence)) (Eq.refl (mA v_second)) (Eq.refl (mA v_sort)) (Eq.refl (mA v_sumEnd)) (Eq.refl (mA v_sumFrom)) (Eq.refl (mA v_testEnd)) (Eq.refl (mA v_voidAt)) (Eq.refl (mI x5)) (Eq.refl (mI v_knownAt)) (Eq.refl (mI v_moved)) (Eq.refl (mI v_without)) (Eq.refl (mA v_best)) (Eq.refl (mA v_cost)) (Eq.refl (mA v_fits)) (Eq.refl (mA v_mates)) (fun v_allowed_k14 v_debt_k15 v_farms_k16 v_isBlanchedNow_k17 v_movedAct_k18 v_movedTerm_k19 v_now_k20 v_paid_k21 v_paidTold_k22 v_pardoned_k23 v_piled_k24 v_shireNow_k25 e48_ e49_ => by exact (t_pM_slip_b225 (Eq.refl N) (Eq.refl (mI a1)) (Eq.refl (mI a2)) (Eq.refl (mJ a3)) (Eq.refl (mI v_acts)) (Eq.refl (mI v_as)) (Eq.refl (mI v_grain)) (Eq.refl (mI v_limit)) (Eq.refl (mI v_lost)) (Eq.refl (mA v_actKind)) (Eq.refl (mA v_actNumber)) (Eq.refl (mA v_actShire)) (Eq.refl (mA v_actTerm)) (Eq.refl (mA v_codes)) (Eq.refl (mA v_cutAt)) (Eq.refl (mA v_cutWorth)) (Eq.refl (mA v_cuts)) (Eq.refl (mA v_first)) (Eq.refl (mA v_isBlanched)) (Eq.refl (mA v_many)) (Eq.refl (mA v_pence)) (Eq.refl (mA v_second)) (Eq.refl (mA v_sort)) (Eq.refl (mA v_sumEnd)) (Eq.refl (mA v_sumFrom)) (Eq.refl (mA v_testEnd)) (Eq.refl (mA v_voidAt)) t_self (Eq.refl (mI x5)) (Eq.refl (mJ v_allowed_k14)) (Eq.refl (mJ v_debt_k15)) (Eq.refl (mJ v_farms_k16)) (Eq.refl (mI v_isBlanchedNow_k17)) (Eq.refl (mI v_knownAt)) (Eq.refl (mI v_moved)) (Eq.refl (mI v_movedAct_k18)) (Eq.refl (mI v_movedTerm_k19)) (Eq.refl (mI v_now_k20)) (Eq.refl (mJ v_paid_k21)) (Eq.refl (mJ v_paidTold_k22)) (Eq.refl (mJ v_pardoned_k23)) (Eq.refl (mI v_piled_k24)) (Eq.refl (mI v_shireNow_k25)) (Eq.refl (mI v_without)) (Eq.refl (mA v_best)) (Eq.refl (mA v_cost)) (Eq.refl (mA v_fits)) (Eq.refl (mA v_mates)) (Eq.refl (mL e48_)) (Eq.refl (mL e49_)))) (Eq.refl N) jlitI_0 (Eq.refl (mJ v_allowed)) (Eq.refl (mJ v_debt)) (Eq.refl (mJ v_farms)) (Eq.refl (mI v_isBlanchedNow)) (Eq.refl (mI v_movedAct)) (Eq.refl (mI v_movedTerm)) (Eq.refl (mI v_now)) (Eq.refl (mJ v_paid)) (Eq.refl (mJ v_paidTold)) (Eq.refl (mJ v_pardoned)) (Eq.refl (mI v_piled)) (Eq.refl (mI v_shireNow)) (Eq.refl (mL v_off)) (Eq.refl (mL v_pile)))
        · exact (t_pM_slip_b225 (Eq.refl N) (Eq.refl (mI a1)) (Eq.refl (mI a2)) (Eq.refl (mJ a3)) (Eq.refl (mI v_acts)) (Eq.refl (mI v_as)) (Eq.refl (mI v_grain)) (Eq.refl (mI v_limit)) (Eq.refl (mI v_lost)) (Eq.refl (mA v_actKind)) (Eq.refl (mA v_actNumber)) (Eq.refl (mA v_actShire)) (Eq.refl (mA v_actTerm)) (Eq.refl (mA v_codes)) (Eq.refl (mA v_cutAt)) (Eq.refl (mA v_cutWorth)) (Eq.refl (mA v_cuts)) (Eq.refl (mA v_first)) (Eq.refl (mA v_isBlanched)) (Eq.refl (mA v_many)) (Eq.refl (mA v_pence)) (Eq.refl (mA v_second)) (Eq.refl (mA v_sort)) (Eq.refl (mA v_sumEnd)) (Eq.refl (mA v_sumFrom)) (Eq.refl (mA v_testEnd)) (Eq.refl (mA v_voidAt)) t_self (Eq.refl (mI x5)) (Eq.refl (mJ v_allowed)) (Eq.refl (mJ v_debt)) (Eq.refl (mJ v_farms)) (Eq.refl (mI v_isBlanchedNow)) (Eq.refl (mI v_knownAt)) (Eq.refl (mI v_moved)) (Eq.refl (mI v_movedAct)) (Eq.refl (mI v_movedTerm)) (Eq.refl (mI v_now)) (Eq.refl (mJ v_paid)) (Eq.refl (mJ v_paidTold)) (Eq.refl (mJ v_pardoned)) (Eq.refl (mI v_piled)) (Eq.refl (mI v_shireNow)) (Eq.refl (mI v_without)) (Eq.refl (mA v_best)) (Eq.refl (mA v_cost)) (Eq.refl (mA v_fits)) (Eq.refl (mA v_mates)) (Eq.refl (mL v_off)) (Eq.refl (mL v_pile)))
theorem t_pM_slip_b121 {N N_j : Nat} (t_N : N = N_j) {a1 : Int32} {a1_j : Int} (t_a1 : mI a1 = a1_j) {a2 : Int32} {a2_j : Int} (t_a2 : mI a2 = a2_j) {a3 : Int64} {a3_j : Int} (t_a3 : mJ a3 = a3_j) {v_acts : Int32} {v_acts_j : Int} (t_v_acts : mI v_acts = v_acts_j) {v_as : Int32} {v_as_j : Int} (t_v_as : mI v_as = v_as_j) {v_grain : Int32} {v_grain_j : Int} (t_v_grain : mI v_grain = v_grain_j) {v_limit : Int32} {v_limit_j : Int} (t_v_limit : mI v_limit = v_limit_j) {v_lost : Int32} {v_lost_j : Int} (t_v_lost : mI v_lost = v_lost_j) {v_actKind : (Nat → Int32)} {v_actKind_j : (Nat → Int)} (t_v_actKind : mA v_actKind = v_actKind_j) {v_actNumber : (Nat → Int32)} {v_actNumber_j : (Nat → Int)} (t_v_actNumber : mA v_actNumber = v_actNumber_j) {v_actShire : (Nat → Int32)} {v_actShire_j : (Nat → Int)} (t_v_actShire : mA v_actShire = v_actShire_j) {v_actTerm : (Nat → Int32)} {v_actTerm_j : (Nat → Int)} (t_v_actTerm : mA v_actTerm = v_actTerm_j) {v_codes : (Nat → Int32)} {v_codes_j : (Nat → Int)} (t_v_codes : mA v_codes = v_codes_j) {v_cutAt : (Nat → Int32)} {v_cutAt_j : (Nat → Int)} (t_v_cutAt : mA v_cutAt = v_cutAt_j) {v_cutWorth : (Nat → Int32)} {v_cutWorth_j : (Nat → Int)} (t_v_cutWorth : mA v_cutWorth = v_cutWorth_j) {v_cuts : (Nat → Int32)} {v_cuts_j : (Nat → Int)} (t_v_cuts : mA v_cuts = v_cuts_j) {v_first : (Nat → Int32)} {v_first_j : (Nat → Int)} (t_v_first : mA v_first = v_first_j) {v_isBlanched : (Nat → Int32)} {v_isBlanched_j : (Nat → Int)} (t_v_isBlanched : mA v_isBlanched = v_isBlanched_j) {v_many : (Nat → Int32)} {v_many_j : (Nat → Int)} (t_v_many : mA v_many = v_many_j) {v_pence : (Nat → Int32)} {v_pence_j : (Nat → Int)} (t_v_pence : mA v_pence = v_pence_j) {v_second : (Nat → Int32)} {v_second_j : (Nat → Int)} (t_v_second : mA v_second = v_second_j) {v_sort : (Nat → Int32)} {v_sort_j : (Nat → Int)} (t_v_sort : mA v_sort = v_sort_j) {v_sumEnd : (Nat → Int32)} {v_sumEnd_j : (Nat → Int)} (t_v_sumEnd : mA v_sumEnd = v_sumEnd_j) {v_sumFrom : (Nat → Int32)} {v_sumFrom_j : (Nat → Int)} (t_v_sumFrom : mA v_sumFrom = v_sumFrom_j) {v_testEnd : (Nat → Int32)} {v_testEnd_j : (Nat → Int)} (t_v_testEnd : mA v_testEnd = v_testEnd_j) {v_voidAt : (Nat → Int32)} {v_voidAt_j : (Nat → Int)} (t_v_voidAt : mA v_voidAt = v_voidAt_j) {v_knownAt : Int32} {v_knownAt_j : Int} (t_v_knownAt : mI v_knownAt = v_knownAt_j) {v_moved : Int32} {v_moved_j : Int} (t_v_moved : mI v_moved = v_moved_j) {v_without : Int32} {v_without_j : Int} (t_v_without : mI v_without = v_without_j) {v_best : (Nat → Int32)} {v_best_j : (Nat → Int)} (t_v_best : mA v_best = v_best_j) {v_cost : (Nat → Int32)} {v_cost_j : (Nat → Int)} (t_v_cost : mA v_cost = v_cost_j) {v_fits : (Nat → Int32)} {v_fits_j : (Nat → Int)} (t_v_fits : mA v_fits = v_fits_j) {v_mates : (Nat → Int32)} {v_mates_j : (Nat → Int)} (t_v_mates : mA v_mates = v_mates_j) {n n_j : Nat} (t_n : n = n_j) {w0_ : Int32} {w0__j : Int} (t_w0_ : mI w0_ = w0__j) {w1_ : Int64} {w1__j : Int} (t_w1_ : mJ w1_ = w1__j) {w2_ : Int64} {w2__j : Int} (t_w2_ : mJ w2_ = w2__j) {w3_ : Int64} {w3__j : Int} (t_w3_ : mJ w3_ = w3__j) {w4_ : Int32} {w4__j : Int} (t_w4_ : mI w4_ = w4__j) {w5_ : Int32} {w5__j : Int} (t_w5_ : mI w5_ = w5__j) {w6_ : Int32} {w6__j : Int} (t_w6_ : mI w6_ = w6__j) {w7_ : Int32} {w7__j : Int} (t_w7_ : mI w7_ = w7__j) {w8_ : Int64} {w8__j : Int} (t_w8_ : mJ w8_ = w8__j) {w9_ : Int64} {w9__j : Int} (t_w9_ : mJ w9_ = w9__j) {w10_ : Int64} {w10__j : Int} (t_w10_ : mJ w10_ = w10__j) {w11_ : Int32} {w11__j : Int} (t_w11_ : mI w11_ = w11__j) {w12_ : Int32} {w12__j : Int} (t_w12_ : mI w12_ = w12__j) {w13_ : (Nat → Int64)} {w13__j : (Nat → Int)} (t_w13_ : mL w13_ = w13__j) {w14_ : (Nat → Int64)} {w14__j : (Nat → Int)} (t_w14_ : mL w14_ = w14__j) : tl (mP mI (mP mJ (mP mJ (mP mJ (mP mI (mP mI (mP mI (mP mI (mP mI (mP mI (mP mJ (mP mJ (mP mJ (mP mI (mP mI (mP mI (mP mA (mP mA (mP mA (mP mA (mP mL mL))))))))))))))))))))) (iM_slip_b121 N_j a1_j a2_j a3_j v_acts_j v_as_j v_grain_j v_limit_j v_lost_j v_actKind_j v_actNumber_j v_actShire_j v_actTerm_j v_codes_j v_cutAt_j v_cutWorth_j v_cuts_j v_first_j v_isBlanched_j v_many_j v_pence_j v_second_j v_sort_j v_sumEnd_j v_sumFrom_j v_testEnd_j v_voidAt_j v_knownAt_j v_moved_j v_without_j v_best_j v_cost_j v_fits_j v_mates_j n_j w0__j w1__j w2__j w3__j w4__j w5__j w6__j w7__j w8__j w9__j w10__j w11__j w12__j w13__j w14__j) (pM_slip_b121 N a1 a2 a3 v_acts v_as v_grain v_limit v_lost v_actKind v_actNumber v_actShire v_actTerm v_codes v_cutAt v_cutWorth v_cuts v_first v_isBlanched v_many v_pence v_second v_sort v_sumEnd v_sumFrom v_testEnd v_voidAt v_knownAt v_moved v_without v_best v_cost v_fits v_mates n w0_ w1_ w2_ w3_ w4_ w5_ w6_ w7_ w8_ w9_ w10_ w11_ w12_ w13_ w14_) := by
  subst t_N
  subst t_a1
  subst t_a2
  subst t_a3
  subst t_v_acts
  subst t_v_as
  subst t_v_grain
  subst t_v_limit
  subst t_v_lost
  subst t_v_actKind
  subst t_v_actNumber
  subst t_v_actShire
  subst t_v_actTerm
  subst t_v_codes
  subst t_v_cutAt
  subst t_v_cutWorth
  subst t_v_cuts
  subst t_v_first
  subst t_v_isBlanched
  subst t_v_many
  subst t_v_pence
  subst t_v_second
  subst t_v_sort
  subst t_v_sumEnd
  subst t_v_sumFrom
  subst t_v_testEnd
  subst t_v_voidAt
  subst t_v_knownAt
  subst t_v_moved
  subst t_v_without
  subst t_v_best
  subst t_v_cost
  subst t_v_fits
  subst t_v_mates
  subst t_n
  subst t_w0_
  subst t_w1_
  subst t_w2_
  subst t_w3_
  subst t_w4_
  subst t_w5_
  subst t_w6_
  subst t_w7_
  subst t_w8_
  subst t_w9_
  subst t_w10_
  subst t_w11_
  subst t_w12_
  subst t_w13_
  subst t_w14_
  exact tl_zlp15 (fun s2 s hs w0_ w1_ w2_ w3_ w4_ w5_ w6_ w7_ w8_ w9_ w10_ w11_ w12_ w13_ w14_ => t_pM_slip_b121_F (Eq.refl N) (Eq.refl (mI a1)) (Eq.refl (mI a2)) (Eq.refl (mJ a3)) (Eq.refl (mI v_acts)) (Eq.refl (mI v_as)) (Eq.refl (mI v_grain)) (Eq.refl (mI v_limit)) (Eq.refl (mI v_lost)) (Eq.refl (mA v_actKind)) (Eq.refl (mA v_actNumber)) (Eq.refl (mA v_actShire)) (Eq.refl (mA v_actTerm)) (Eq.refl (mA v_codes)) (Eq.refl (mA v_cutAt)) (Eq.refl (mA v_cutWorth)) (Eq.refl (mA v_cuts)) (Eq.refl (mA v_first)) (Eq.refl (mA v_isBlanched)) (Eq.refl (mA v_many)) (Eq.refl (mA v_pence)) (Eq.refl (mA v_second)) (Eq.refl (mA v_sort)) (Eq.refl (mA v_sumEnd)) (Eq.refl (mA v_sumFrom)) (Eq.refl (mA v_testEnd)) (Eq.refl (mA v_voidAt)) (Eq.refl (mI v_knownAt)) (Eq.refl (mI v_moved)) (Eq.refl (mI v_without)) (Eq.refl (mA v_best)) (Eq.refl (mA v_cost)) (Eq.refl (mA v_fits)) (Eq.refl (mA v_mates)) hs (Eq.refl (mI w0_)) (Eq.refl (mJ w1_)) (Eq.refl (mJ w2_)) (Eq.refl (mJ w3_)) (Eq.refl (mI w4_)) (Eq.refl (mI w5_)) (Eq.refl (mI w6_)) (Eq.refl (mI w7_)) (Eq.refl (mJ w8_)) (Eq.refl (mJ w9_)) (Eq.refl (mJ w10_)) (Eq.refl (mI w11_)) (Eq.refl (mI w12_)) (Eq.refl (mL w13_)) (Eq.refl (mL w14_))) n w0_ w1_ w2_ w3_ w4_ w5_ w6_ w7_ w8_ w9_ w10_ w11_ w12_ w13_ w14_
theorem t_pM_slip_b113 {N N_j : Nat} (t_N : N = N_j) {a1 : Int32} {a1_j : Int} (t_a1 : mI a1 = a1_j) {a2 : Int32} {a2_j : Int} (t_a2 : mI a2 = a2_j) {a3 : Int64} {a3_j : Int} (t_a3 : mJ a3 = a3_j) {v_acts : Int32} {v_acts_j : Int} (t_v_acts : mI v_acts = v_acts_j) {v_as : Int32} {v_as_j : Int} (t_v_as : mI v_as = v_as_j) {v_grain : Int32} {v_grain_j : Int} (t_v_grain : mI v_grain = v_grain_j) {v_limit : Int32} {v_limit_j : Int} (t_v_limit : mI v_limit = v_limit_j) {v_lost : Int32} {v_lost_j : Int} (t_v_lost : mI v_lost = v_lost_j) {v_actKind : (Nat → Int32)} {v_actKind_j : (Nat → Int)} (t_v_actKind : mA v_actKind = v_actKind_j) {v_actNumber : (Nat → Int32)} {v_actNumber_j : (Nat → Int)} (t_v_actNumber : mA v_actNumber = v_actNumber_j) {v_actShire : (Nat → Int32)} {v_actShire_j : (Nat → Int)} (t_v_actShire : mA v_actShire = v_actShire_j) {v_actTerm : (Nat → Int32)} {v_actTerm_j : (Nat → Int)} (t_v_actTerm : mA v_actTerm = v_actTerm_j) {v_codes : (Nat → Int32)} {v_codes_j : (Nat → Int)} (t_v_codes : mA v_codes = v_codes_j) {v_cutAt : (Nat → Int32)} {v_cutAt_j : (Nat → Int)} (t_v_cutAt : mA v_cutAt = v_cutAt_j) {v_cutWorth : (Nat → Int32)} {v_cutWorth_j : (Nat → Int)} (t_v_cutWorth : mA v_cutWorth = v_cutWorth_j) {v_cuts : (Nat → Int32)} {v_cuts_j : (Nat → Int)} (t_v_cuts : mA v_cuts = v_cuts_j) {v_first : (Nat → Int32)} {v_first_j : (Nat → Int)} (t_v_first : mA v_first = v_first_j) {v_isBlanched : (Nat → Int32)} {v_isBlanched_j : (Nat → Int)} (t_v_isBlanched : mA v_isBlanched = v_isBlanched_j) {v_many : (Nat → Int32)} {v_many_j : (Nat → Int)} (t_v_many : mA v_many = v_many_j) {v_pence : (Nat → Int32)} {v_pence_j : (Nat → Int)} (t_v_pence : mA v_pence = v_pence_j) {v_second : (Nat → Int32)} {v_second_j : (Nat → Int)} (t_v_second : mA v_second = v_second_j) {v_sort : (Nat → Int32)} {v_sort_j : (Nat → Int)} (t_v_sort : mA v_sort = v_sort_j) {v_sumEnd : (Nat → Int32)} {v_sumEnd_j : (Nat → Int)} (t_v_sumEnd : mA v_sumEnd = v_sumEnd_j) {v_sumFrom : (Nat → Int32)} {v_sumFrom_j : (Nat → Int)} (t_v_sumFrom : mA v_sumFrom = v_sumFrom_j) {v_testEnd : (Nat → Int32)} {v_testEnd_j : (Nat → Int)} (t_v_testEnd : mA v_testEnd = v_testEnd_j) {v_voidAt : (Nat → Int32)} {v_voidAt_j : (Nat → Int)} (t_v_voidAt : mA v_voidAt = v_voidAt_j) {v_allowed : Int64} {v_allowed_j : Int} (t_v_allowed : mJ v_allowed = v_allowed_j) {v_debt : Int64} {v_debt_j : Int} (t_v_debt : mJ v_debt = v_debt_j) {v_farms : Int64} {v_farms_j : Int} (t_v_farms : mJ v_farms = v_farms_j) {v_isBlanchedNow : Int32} {v_isBlanchedNow_j : Int} (t_v_isBlanchedNow : mI v_isBlanchedNow = v_isBlanchedNow_j) {v_knownAt : Int32} {v_knownAt_j : Int} (t_v_knownAt : mI v_knownAt = v_knownAt_j) {v_moved : Int32} {v_moved_j : Int} (t_v_moved : mI v_moved = v_moved_j) {v_movedAct : Int32} {v_movedAct_j : Int} (t_v_movedAct : mI v_movedAct = v_movedAct_j) {v_movedTerm : Int32} {v_movedTerm_j : Int} (t_v_movedTerm : mI v_movedTerm = v_movedTerm_j) {v_now : Int32} {v_now_j : Int} (t_v_now : mI v_now = v_now_j) {v_paid : Int64} {v_paid_j : Int} (t_v_paid : mJ v_paid = v_paid_j) {v_paidTold : Int64} {v_paidTold_j : Int} (t_v_paidTold : mJ v_paidTold = v_paidTold_j) {v_pardoned : Int64} {v_pardoned_j : Int} (t_v_pardoned : mJ v_pardoned = v_pardoned_j) {v_piled : Int32} {v_piled_j : Int} (t_v_piled : mI v_piled = v_piled_j) {v_shireNow : Int32} {v_shireNow_j : Int} (t_v_shireNow : mI v_shireNow = v_shireNow_j) {v_without : Int32} {v_without_j : Int} (t_v_without : mI v_without = v_without_j) {v_best : (Nat → Int32)} {v_best_j : (Nat → Int)} (t_v_best : mA v_best = v_best_j) {v_cost : (Nat → Int32)} {v_cost_j : (Nat → Int)} (t_v_cost : mA v_cost = v_cost_j) {v_fits : (Nat → Int32)} {v_fits_j : (Nat → Int)} (t_v_fits : mA v_fits = v_fits_j) {v_mates : (Nat → Int32)} {v_mates_j : (Nat → Int)} (t_v_mates : mA v_mates = v_mates_j) {v_off : (Nat → Int64)} {v_off_j : (Nat → Int)} (t_v_off : mL v_off = v_off_j) {v_pile : (Nat → Int64)} {v_pile_j : (Nat → Int)} (t_v_pile : mL v_pile = v_pile_j) : tl (mP mI (mP mJ (mP mJ (mP mJ (mP mI (mP mI (mP mI (mP mI (mP mI (mP mI (mP mJ (mP mJ (mP mJ (mP mI (mP mI (mP mI (mP mA (mP mA (mP mA (mP mA (mP mL mL))))))))))))))))))))) (iM_slip_b113 N_j a1_j a2_j a3_j v_acts_j v_as_j v_grain_j v_limit_j v_lost_j v_actKind_j v_actNumber_j v_actShire_j v_actTerm_j v_codes_j v_cutAt_j v_cutWorth_j v_cuts_j v_first_j v_isBlanched_j v_many_j v_pence_j v_second_j v_sort_j v_sumEnd_j v_sumFrom_j v_testEnd_j v_voidAt_j v_allowed_j v_debt_j v_farms_j v_isBlanchedNow_j v_knownAt_j v_moved_j v_movedAct_j v_movedTerm_j v_now_j v_paid_j v_paidTold_j v_pardoned_j v_piled_j v_shireNow_j v_without_j v_best_j v_cost_j v_fits_j v_mates_j v_off_j v_pile_j) (pM_slip_b113 N a1 a2 a3 v_acts v_as v_grain v_limit v_lost v_actKind v_actNumber v_actShire v_actTerm v_codes v_cutAt v_cutWorth v_cuts v_first v_isBlanched v_many v_pence v_second v_sort v_sumEnd v_sumFrom v_testEnd v_voidAt v_allowed v_debt v_farms v_isBlanchedNow v_knownAt v_moved v_movedAct v_movedTerm v_now v_paid v_paidTold v_pardoned v_piled v_shireNow v_without v_best v_cost v_fits v_mates v_off v_pile) := by
  subst t_N
  subst t_a1
  subst t_a2
  subst t_a3
  subst t_v_acts
  subst t_v_as
  subst t_v_grain
  subst t_v_limit
  subst t_v_lost
  subst t_v_actKind
  subst t_v_actNumber
  subst t_v_actShire
  subst t_v_actTerm
  subst t_v_codes
  subst t_v_cutAt
  subst t_v_cutWorth
  subst t_v_cuts
  subst t_v_first
  subst t_v_isBlanched
  subst t_v_many
  subst t_v_pence
  subst t_v_second
  subst t_v_sort
  subst t_v_sumEnd
  subst t_v_sumFrom
  subst t_v_testEnd
  subst t_v_voidAt
  subst t_v_allowed
  subst t_v_debt
  subst t_v_farms
  subst t_v_isBlanchedNow
  subst t_v_knownAt
  subst t_v_moved
  subst t_v_movedAct
  subst t_v_movedTerm
  subst t_v_now
  subst t_v_paid
  subst t_v_paidTold
  subst t_v_pardoned
  subst t_v_piled
  subst t_v_shireNow
  subst t_v_without
  subst t_v_best
  subst t_v_cost
  subst t_v_fits
  subst t_v_mates
  subst t_v_off
  subst t_v_pile
  unfold iM_slip_b113 pM_slip_b113
  exact (t_pM_slip_b121 (Eq.refl N) (Eq.refl (mI a1)) (Eq.refl (mI a2)) (Eq.refl (mJ a3)) (Eq.refl (mI v_acts)) (Eq.refl (mI v_as)) (Eq.refl (mI v_grain)) (Eq.refl (mI v_limit)) (Eq.refl (mI v_lost)) (Eq.refl (mA v_actKind)) (Eq.refl (mA v_actNumber)) (Eq.refl (mA v_actShire)) (Eq.refl (mA v_actTerm)) (Eq.refl (mA v_codes)) (Eq.refl (mA v_cutAt)) (Eq.refl (mA v_cutWorth)) (Eq.refl (mA v_cuts)) (Eq.refl (mA v_first)) (Eq.refl (mA v_isBlanched)) (Eq.refl (mA v_many)) (Eq.refl (mA v_pence)) (Eq.refl (mA v_second)) (Eq.refl (mA v_sort)) (Eq.refl (mA v_sumEnd)) (Eq.refl (mA v_sumFrom)) (Eq.refl (mA v_testEnd)) (Eq.refl (mA v_voidAt)) (Eq.refl (mI v_knownAt)) (Eq.refl (mI v_moved)) jlitI_m1 (Eq.refl (mA v_best)) (Eq.refl (mA v_cost)) (Eq.refl (mA v_fits)) (Eq.refl (mA v_mates)) (Eq.refl N) jlitI_1 (Eq.refl (mJ v_allowed)) (Eq.refl (mJ v_debt)) (Eq.refl (mJ v_farms)) (Eq.refl (mI v_isBlanchedNow)) (Eq.refl (mI v_movedAct)) (Eq.refl (mI v_movedTerm)) (Eq.refl (mI v_now)) (Eq.refl (mJ v_paid)) (Eq.refl (mJ v_paidTold)) (Eq.refl (mJ v_pardoned)) (Eq.refl (mI v_piled)) (Eq.refl (mI v_shireNow)) (Eq.refl (mL v_off)) (Eq.refl (mL v_pile)))
theorem t_pM_slip {N N_j : Nat} (t_N : N = N_j) {a1 : Int32} {a1_j : Int} (t_a1 : mI a1 = a1_j) {a2 : Int32} {a2_j : Int} (t_a2 : mI a2 = a2_j) {a3 : Int64} {a3_j : Int} (t_a3 : mJ a3 = a3_j) {v_acts : Int32} {v_acts_j : Int} (t_v_acts : mI v_acts = v_acts_j) {v_allowed : Int64} {v_allowed_j : Int} (t_v_allowed : mJ v_allowed = v_allowed_j) {v_as : Int32} {v_as_j : Int} (t_v_as : mI v_as = v_as_j) {v_debt : Int64} {v_debt_j : Int} (t_v_debt : mJ v_debt = v_debt_j) {v_farms : Int64} {v_farms_j : Int} (t_v_farms : mJ v_farms = v_farms_j) {v_grain : Int32} {v_grain_j : Int} (t_v_grain : mI v_grain = v_grain_j) {v_isBlanchedNow : Int32} {v_isBlanchedNow_j : Int} (t_v_isBlanchedNow : mI v_isBlanchedNow = v_isBlanchedNow_j) {v_knownAt : Int32} {v_knownAt_j : Int} (t_v_knownAt : mI v_knownAt = v_knownAt_j) {v_limit : Int32} {v_limit_j : Int} (t_v_limit : mI v_limit = v_limit_j) {v_lost : Int32} {v_lost_j : Int} (t_v_lost : mI v_lost = v_lost_j) {v_moved : Int32} {v_moved_j : Int} (t_v_moved : mI v_moved = v_moved_j) {v_movedAct : Int32} {v_movedAct_j : Int} (t_v_movedAct : mI v_movedAct = v_movedAct_j) {v_movedTerm : Int32} {v_movedTerm_j : Int} (t_v_movedTerm : mI v_movedTerm = v_movedTerm_j) {v_now : Int32} {v_now_j : Int} (t_v_now : mI v_now = v_now_j) {v_paid : Int64} {v_paid_j : Int} (t_v_paid : mJ v_paid = v_paid_j) {v_paidTold : Int64} {v_paidTold_j : Int} (t_v_paidTold : mJ v_paidTold = v_paidTold_j) {v_pardoned : Int64} {v_pardoned_j : Int} (t_v_pardoned : mJ v_pardoned = v_pardoned_j) {v_piled : Int32} {v_piled_j : Int} (t_v_piled : mI v_piled = v_piled_j) {v_shireNow : Int32} {v_shireNow_j : Int} (t_v_shireNow : mI v_shireNow = v_shireNow_j) {v_without : Int32} {v_without_j : Int} (t_v_without : mI v_without = v_without_j) {v_actKind : (Nat → Int32)} {v_actKind_j : (Nat → Int)} (t_v_actKind : mA v_actKind = v_actKind_j) {v_actNumber : (Nat → Int32)} {v_actNumber_j : (Nat → Int)} (t_v_actNumber : mA v_actNumber = v_actNumber_j) {v_actShire : (Nat → Int32)} {v_actShire_j : (Nat → Int)} (t_v_actShire : mA v_actShire = v_actShire_j) {v_actTerm : (Nat → Int32)} {v_actTerm_j : (Nat → Int)} (t_v_actTerm : mA v_actTerm = v_actTerm_j) {v_best : (Nat → Int32)} {v_best_j : (Nat → Int)} (t_v_best : mA v_best = v_best_j) {v_codes : (Nat → Int32)} {v_codes_j : (Nat → Int)} (t_v_codes : mA v_codes = v_codes_j) {v_cost : (Nat → Int32)} {v_cost_j : (Nat → Int)} (t_v_cost : mA v_cost = v_cost_j) {v_cutAt : (Nat → Int32)} {v_cutAt_j : (Nat → Int)} (t_v_cutAt : mA v_cutAt = v_cutAt_j) {v_cutWorth : (Nat → Int32)} {v_cutWorth_j : (Nat → Int)} (t_v_cutWorth : mA v_cutWorth = v_cutWorth_j) {v_cuts : (Nat → Int32)} {v_cuts_j : (Nat → Int)} (t_v_cuts : mA v_cuts = v_cuts_j) {v_first : (Nat → Int32)} {v_first_j : (Nat → Int)} (t_v_first : mA v_first = v_first_j) {v_fits : (Nat → Int32)} {v_fits_j : (Nat → Int)} (t_v_fits : mA v_fits = v_fits_j) {v_isBlanched : (Nat → Int32)} {v_isBlanched_j : (Nat → Int)} (t_v_isBlanched : mA v_isBlanched = v_isBlanched_j) {v_many : (Nat → Int32)} {v_many_j : (Nat → Int)} (t_v_many : mA v_many = v_many_j) {v_mates : (Nat → Int32)} {v_mates_j : (Nat → Int)} (t_v_mates : mA v_mates = v_mates_j) {v_off : (Nat → Int64)} {v_off_j : (Nat → Int)} (t_v_off : mL v_off = v_off_j) {v_pence : (Nat → Int32)} {v_pence_j : (Nat → Int)} (t_v_pence : mA v_pence = v_pence_j) {v_pile : (Nat → Int64)} {v_pile_j : (Nat → Int)} (t_v_pile : mL v_pile = v_pile_j) {v_second : (Nat → Int32)} {v_second_j : (Nat → Int)} (t_v_second : mA v_second = v_second_j) {v_sort : (Nat → Int32)} {v_sort_j : (Nat → Int)} (t_v_sort : mA v_sort = v_sort_j) {v_sumEnd : (Nat → Int32)} {v_sumEnd_j : (Nat → Int)} (t_v_sumEnd : mA v_sumEnd = v_sumEnd_j) {v_sumFrom : (Nat → Int32)} {v_sumFrom_j : (Nat → Int)} (t_v_sumFrom : mA v_sumFrom = v_sumFrom_j) {v_testEnd : (Nat → Int32)} {v_testEnd_j : (Nat → Int)} (t_v_testEnd : mA v_testEnd = v_testEnd_j) {v_voidAt : (Nat → Int32)} {v_voidAt_j : (Nat → Int)} (t_v_voidAt : mA v_voidAt = v_voidAt_j) : tl (mP mI (mP mJ (mP mJ (mP mJ (mP mI (mP mI (mP mI (mP mI (mP mI (mP mI (mP mJ (mP mJ (mP mJ (mP mI (mP mI (mP mI (mP mA (mP mA (mP mA (mP mA (mP mL mL))))))))))))))))))))) (iM_slip N_j a1_j a2_j a3_j v_acts_j v_allowed_j v_as_j v_debt_j v_farms_j v_grain_j v_isBlanchedNow_j v_knownAt_j v_limit_j v_lost_j v_moved_j v_movedAct_j v_movedTerm_j v_now_j v_paid_j v_paidTold_j v_pardoned_j v_piled_j v_shireNow_j v_without_j v_actKind_j v_actNumber_j v_actShire_j v_actTerm_j v_best_j v_codes_j v_cost_j v_cutAt_j v_cutWorth_j v_cuts_j v_first_j v_fits_j v_isBlanched_j v_many_j v_mates_j v_off_j v_pence_j v_pile_j v_second_j v_sort_j v_sumEnd_j v_sumFrom_j v_testEnd_j v_voidAt_j) (pM_slip N a1 a2 a3 v_acts v_allowed v_as v_debt v_farms v_grain v_isBlanchedNow v_knownAt v_limit v_lost v_moved v_movedAct v_movedTerm v_now v_paid v_paidTold v_pardoned v_piled v_shireNow v_without v_actKind v_actNumber v_actShire v_actTerm v_best v_codes v_cost v_cutAt v_cutWorth v_cuts v_first v_fits v_isBlanched v_many v_mates v_off v_pence v_pile v_second v_sort v_sumEnd v_sumFrom v_testEnd v_voidAt) := by
  subst t_N
  subst t_a1
  subst t_a2
  subst t_a3
  subst t_v_acts
  subst t_v_allowed
  subst t_v_as
  subst t_v_debt
  subst t_v_farms
  subst t_v_grain
  subst t_v_isBlanchedNow
  subst t_v_knownAt
  subst t_v_limit
  subst t_v_lost
  subst t_v_moved
  subst t_v_movedAct
  subst t_v_movedTerm
  subst t_v_now
  subst t_v_paid
  subst t_v_paidTold
  subst t_v_pardoned
  subst t_v_piled
  subst t_v_shireNow
  subst t_v_without
  subst t_v_actKind
  subst t_v_actNumber
  subst t_v_actShire
  subst t_v_actTerm
  subst t_v_best
  subst t_v_codes
  subst t_v_cost
  subst t_v_cutAt
  subst t_v_cutWorth
  subst t_v_cuts
  subst t_v_first
  subst t_v_fits
  subst t_v_isBlanched
  subst t_v_many
  subst t_v_mates
  subst t_v_off
  subst t_v_pence
  subst t_v_pile
  subst t_v_second
  subst t_v_sort
  subst t_v_sumEnd
  subst t_v_sumFrom
  subst t_v_testEnd
  subst t_v_voidAt
  unfold iM_slip pM_slip
  refine tl_bd1 (t_pM_isShire (Eq.refl (mI a1))) (fun rc1 => ?_)
  refine tl_ite (jc_eq (Eq.refl (mI rc1)) jlitI_0) ?_ ?_
  · exact (tl_some (jp2 jlitI_m2 (jp2 (Eq.refl (mJ v_allowed)) (jp2 (Eq.refl (mJ v_debt)) (jp2 (Eq.refl (mJ v_farms)) (jp2 (Eq.refl (mI v_isBlanchedNow)) (jp2 (Eq.refl (mI v_knownAt)) (jp2 (Eq.refl (mI v_moved)) (jp2 (Eq.refl (mI v_movedAct)) (jp2 (Eq.refl (mI v_movedTerm)) (jp2 (Eq.refl (mI v_now)) (jp2 (Eq.refl (mJ v_paid)) (jp2 (Eq.refl (mJ v_paidTold)) (jp2 (Eq.refl (mJ v_pardoned)) (jp2 (Eq.refl (mI v_piled)) (jp2 (Eq.refl (mI v_shireNow)) (jp2 (Eq.refl (mI v_without)) (jp2 (Eq.refl (mA v_best)) (jp2 (Eq.refl (mA v_cost)) (jp2 (Eq.refl (mA v_fits)) (jp2 (Eq.refl (mA v_mates)) (jp2 (Eq.refl (mL v_off)) (Eq.refl (mL v_pile))))))))))))))))))))))))
  · refine tl_bd1 (t_pM_isTerm (Eq.refl (mI a2))) (fun rc2 => ?_)
    refine tl_ite (jc_eq (Eq.refl (mI rc2)) jlitI_0) ?_ ?_
    · exact (tl_some (jp2 jlitI_m2 (jp2 (Eq.refl (mJ v_allowed)) (jp2 (Eq.refl (mJ v_debt)) (jp2 (Eq.refl (mJ v_farms)) (jp2 (Eq.refl (mI v_isBlanchedNow)) (jp2 (Eq.refl (mI v_knownAt)) (jp2 (Eq.refl (mI v_moved)) (jp2 (Eq.refl (mI v_movedAct)) (jp2 (Eq.refl (mI v_movedTerm)) (jp2 (Eq.refl (mI v_now)) (jp2 (Eq.refl (mJ v_paid)) (jp2 (Eq.refl (mJ v_paidTold)) (jp2 (Eq.refl (mJ v_pardoned)) (jp2 (Eq.refl (mI v_piled)) (jp2 (Eq.refl (mI v_shireNow)) (jp2 (Eq.refl (mI v_without)) (jp2 (Eq.refl (mA v_best)) (jp2 (Eq.refl (mA v_cost)) (jp2 (Eq.refl (mA v_fits)) (jp2 (Eq.refl (mA v_mates)) (jp2 (Eq.refl (mL v_off)) (Eq.refl (mL v_pile))))))))))))))))))))))))
    · refine tl_bd4 (t_pM_matches (Eq.refl N) (Eq.refl (mI v_grain)) (Eq.refl (mI v_limit)) (Eq.refl (mI v_lost)) (Eq.refl (mA v_best)) (Eq.refl (mA v_cost)) (Eq.refl (mA v_cutAt)) (Eq.refl (mA v_cutWorth)) (Eq.refl (mA v_cuts)) (Eq.refl (mA v_fits)) (Eq.refl (mA v_mates))) (fun v_best_c3 v_cost_c3 v_fits_c3 v_mates_c3 => ?_)
      refine tl_bd1 (t_pM_asNow (Eq.refl (mI v_acts)) (Eq.refl (mI v_as))) (fun rc4 => ?_)
      refine tl_bd3 (t_pM_tellsAsKnown (Eq.refl (mI rc4)) (Eq.refl (mI v_knownAt)) (Eq.refl (mI v_movedAct)) (Eq.refl (mI v_without))) (fun v_knownAt_c5 v_movedAct_c5 v_without_c5 => ?_)
      refine tl_bd13 (t_pM_rolls (Eq.refl N) (Eq.refl (mI a1)) (Eq.refl (mI a2)) (Eq.refl (mI v_acts)) (Eq.refl (mJ v_allowed)) (Eq.refl (mJ v_debt)) (Eq.refl (mJ v_farms)) (Eq.refl (mI v_isBlanchedNow)) (Eq.refl (mI v_knownAt_c5)) (Eq.refl (mI v_movedAct_c5)) (Eq.refl (mI v_movedTerm)) (Eq.refl (mI v_now)) (Eq.refl (mJ v_paid)) (Eq.refl (mJ v_paidTold)) (Eq.refl (mJ v_pardoned)) (Eq.refl (mI v_piled)) (Eq.refl (mI v_shireNow)) (Eq.refl (mI v_without_c5)) (Eq.refl (mA v_actKind)) (Eq.refl (mA v_actNumber)) (Eq.refl (mA v_actShire)) (Eq.refl (mA v_actTerm)) (Eq.refl (mA v_codes)) (Eq.refl (mA v_cutWorth)) (Eq.refl (mA v_cuts)) (Eq.refl (mA v_first)) (Eq.refl (mA v_isBlanched)) (Eq.refl (mA v_many)) (Eq.refl (mA v_mates_c3)) (Eq.refl (mL v_off)) (Eq.refl (mA v_pence)) (Eq.refl (mL v_pile)) (Eq.refl (mA v_second)) (Eq.refl (mA v_sort)) (Eq.refl (mA v_sumEnd)) (Eq.refl (mA v_sumFrom)) (Eq.refl (mA v_testEnd)) (Eq.refl (mA v_voidAt))) (fun rc6 v_allowed_c6 v_debt_c6 v_farms_c6 v_isBlanchedNow_c6 v_now_c6 v_paid_c6 v_paidTold_c6 v_pardoned_c6 v_piled_c6 v_shireNow_c6 v_off_c6 v_pile_c6 => ?_)
      refine tl_ite (jk_eq (Eq.refl (mJ rc6)) (Eq.refl (mJ a3))) ?_ ?_
      · exact (tl_some (jp2 jlitI_0 (jp2 (Eq.refl (mJ v_allowed_c6)) (jp2 (Eq.refl (mJ v_debt_c6)) (jp2 (Eq.refl (mJ v_farms_c6)) (jp2 (Eq.refl (mI v_isBlanchedNow_c6)) (jp2 (Eq.refl (mI v_knownAt_c5)) (jp2 jlitI_m1 (jp2 (Eq.refl (mI v_movedAct_c5)) (jp2 (Eq.refl (mI v_movedTerm)) (jp2 (Eq.refl (mI v_now_c6)) (jp2 (Eq.refl (mJ v_paid_c6)) (jp2 (Eq.refl (mJ v_paidTold_c6)) (jp2 (Eq.refl (mJ v_pardoned_c6)) (jp2 (Eq.refl (mI v_piled_c6)) (jp2 (Eq.refl (mI v_shireNow_c6)) (jp2 (Eq.refl (mI v_without_c5)) (jp2 (Eq.refl (mA v_best_c3)) (jp2 (Eq.refl (mA v_cost_c3)) (jp2 (Eq.refl (mA v_fits_c3)) (jp2 (Eq.refl (mA v_mates_c3)) (jp2 (Eq.refl (mL v_off_c6)) (Eq.refl (mL v_pile_c6))))))))))))))))))))))))
      · exact (t_pM_slip_b50 (Eq.refl N) (Eq.refl (mI a1)) (Eq.refl (mI a2)) (Eq.refl (mJ a3)) (Eq.refl (mI v_acts)) (Eq.refl (mI v_as)) (Eq.refl (mI v_grain)) (Eq.refl (mI v_limit)) (Eq.refl (mI v_lost)) (Eq.refl (mA v_actKind)) (Eq.refl (mA v_actNumber)) (Eq.refl (mA v_actShire)) (Eq.refl (mA v_actTerm)) (Eq.refl (mA v_codes)) (Eq.refl (mA v_cutAt)) (Eq.refl (mA v_cutWorth)) (Eq.refl (mA v_cuts)) (Eq.refl (mA v_first)) (Eq.refl (mA v_isBlanched)) (Eq.refl (mA v_many)) (Eq.refl (mA v_pence)) (Eq.refl (mA v_second)) (Eq.refl (mA v_sort)) (Eq.refl (mA v_sumEnd)) (Eq.refl (mA v_sumFrom)) (Eq.refl (mA v_testEnd)) (Eq.refl (mA v_voidAt)) (Eq.refl (mI v_knownAt_c5)) jlitI_m1 (Eq.refl (mI v_movedAct_c5)) (Eq.refl (mI v_movedTerm)) (Eq.refl (mA v_best_c3)) (Eq.refl (mA v_cost_c3)) (Eq.refl (mA v_fits_c3)) (Eq.refl (mA v_mates_c3)) (fun v_allowed_k1 v_debt_k2 v_farms_k3 v_isBlanchedNow_k4 v_now_k5 v_paid_k6 v_paidTold_k7 v_pardoned_k8 v_piled_k9 v_shireNow_k10 v_without_k11 e46_ e47_ => by exact (t_pM_slip_b113 (Eq.refl N) (Eq.refl (mI a1)) (Eq.refl (mI a2)) (Eq.refl (mJ a3)) (Eq.refl (mI v_acts)) (Eq.refl (mI v_as)) (Eq.refl (mI v_grain)) (Eq.refl (mI v_limit)) (Eq.refl (mI v_lost)) (Eq.refl (mA v_actKind)) (Eq.refl (mA v_actNumber)) (Eq.refl (mA v_actShire)) (Eq.refl (mA v_actTerm)) (Eq.refl (mA v_codes)) (Eq.refl (mA v_cutAt)) (Eq.refl (mA v_cutWorth)) (Eq.refl (mA v_cuts)) (Eq.refl (mA v_first)) (Eq.refl (mA v_isBlanched)) (Eq.refl (mA v_many)) (Eq.refl (mA v_pence)) (Eq.refl (mA v_second)) (Eq.refl (mA v_sort)) (Eq.refl (mA v_sumEnd)) (Eq.refl (mA v_sumFrom)) (Eq.refl (mA v_testEnd)) (Eq.refl (mA v_voidAt)) (Eq.refl (mJ v_allowed_k1)) (Eq.refl (mJ v_debt_k2)) (Eq.refl (mJ v_farms_k3)) (Eq.refl (mI v_isBlanchedNow_k4)) (Eq.refl (mI v_knownAt_c5)) jlitI_m1 (Eq.refl (mI v_movedAct_c5)) (Eq.refl (mI v_movedTerm)) (Eq.refl (mI v_now_k5)) (Eq.refl (mJ v_paid_k6)) (Eq.refl (mJ v_paidTold_k7)) (Eq.refl (mJ v_pardoned_k8)) (Eq.refl (mI v_piled_k9)) (Eq.refl (mI v_shireNow_k10)) (Eq.refl (mI v_without_k11)) (Eq.refl (mA v_best_c3)) (Eq.refl (mA v_cost_c3)) (Eq.refl (mA v_fits_c3)) (Eq.refl (mA v_mates_c3)) (Eq.refl (mL e46_)) (Eq.refl (mL e47_)))) (Eq.refl N) jlitI_1 (Eq.refl (mJ v_allowed_c6)) (Eq.refl (mJ v_debt_c6)) (Eq.refl (mJ v_farms_c6)) (Eq.refl (mI v_isBlanchedNow_c6)) (Eq.refl (mI v_now_c6)) (Eq.refl (mJ v_paid_c6)) (Eq.refl (mJ v_paidTold_c6)) (Eq.refl (mJ v_pardoned_c6)) (Eq.refl (mI v_piled_c6)) (Eq.refl (mI v_shireNow_c6)) (Eq.refl (mI v_without_c5)) (Eq.refl (mL v_off_c6)) (Eq.refl (mL v_pile_c6)))
theorem t_pM_moved {v_moved : Int32} {v_moved_j : Int} (t_v_moved : mI v_moved = v_moved_j) : tl (mI) (iM_moved v_moved_j) (pM_moved v_moved) := by
  subst t_v_moved
  unfold iM_moved pM_moved
  exact (tl_some (Eq.refl (mI v_moved)))
theorem t_pM_since_b78 {N N_j : Nat} (t_N : N = N_j) {a1 : Int32} {a1_j : Int} (t_a1 : mI a1 = a1_j) {a2 : Int32} {a2_j : Int} (t_a2 : mI a2 = a2_j) {v_acts : Int32} {v_acts_j : Int} (t_v_acts : mI v_acts = v_acts_j) {v_grain : Int32} {v_grain_j : Int} (t_v_grain : mI v_grain = v_grain_j) {v_limit : Int32} {v_limit_j : Int} (t_v_limit : mI v_limit = v_limit_j) {v_lost : Int32} {v_lost_j : Int} (t_v_lost : mI v_lost = v_lost_j) {v_movedTerm : Int32} {v_movedTerm_j : Int} (t_v_movedTerm : mI v_movedTerm = v_movedTerm_j) {v_actKind : (Nat → Int32)} {v_actKind_j : (Nat → Int)} (t_v_actKind : mA v_actKind = v_actKind_j) {v_actNumber : (Nat → Int32)} {v_actNumber_j : (Nat → Int)} (t_v_actNumber : mA v_actNumber = v_actNumber_j) {v_actShire : (Nat → Int32)} {v_actShire_j : (Nat → Int)} (t_v_actShire : mA v_actShire = v_actShire_j) {v_actTerm : (Nat → Int32)} {v_actTerm_j : (Nat → Int)} (t_v_actTerm : mA v_actTerm = v_actTerm_j) {v_codes : (Nat → Int32)} {v_codes_j : (Nat → Int)} (t_v_codes : mA v_codes = v_codes_j) {v_cutAt : (Nat → Int32)} {v_cutAt_j : (Nat → Int)} (t_v_cutAt : mA v_cutAt = v_cutAt_j) {v_cutWorth : (Nat → Int32)} {v_cutWorth_j : (Nat → Int)} (t_v_cutWorth : mA v_cutWorth = v_cutWorth_j) {v_cuts : (Nat → Int32)} {v_cuts_j : (Nat → Int)} (t_v_cuts : mA v_cuts = v_cuts_j) {v_first : (Nat → Int32)} {v_first_j : (Nat → Int)} (t_v_first : mA v_first = v_first_j) {v_isBlanched : (Nat → Int32)} {v_isBlanched_j : (Nat → Int)} (t_v_isBlanched : mA v_isBlanched = v_isBlanched_j) {v_many : (Nat → Int32)} {v_many_j : (Nat → Int)} (t_v_many : mA v_many = v_many_j) {v_pence : (Nat → Int32)} {v_pence_j : (Nat → Int)} (t_v_pence : mA v_pence = v_pence_j) {v_second : (Nat → Int32)} {v_second_j : (Nat → Int)} (t_v_second : mA v_second = v_second_j) {v_sort : (Nat → Int32)} {v_sort_j : (Nat → Int)} (t_v_sort : mA v_sort = v_sort_j) {v_sumEnd : (Nat → Int32)} {v_sumEnd_j : (Nat → Int)} (t_v_sumEnd : mA v_sumEnd = v_sumEnd_j) {v_sumFrom : (Nat → Int32)} {v_sumFrom_j : (Nat → Int)} (t_v_sumFrom : mA v_sumFrom = v_sumFrom_j) {v_testEnd : (Nat → Int32)} {v_testEnd_j : (Nat → Int)} (t_v_testEnd : mA v_testEnd = v_testEnd_j) {v_voidAt : (Nat → Int32)} {v_voidAt_j : (Nat → Int)} (t_v_voidAt : mA v_voidAt = v_voidAt_j) {self : Int32 → Int32 → Int64 → Int64 → Int64 → Int32 → Int32 → Int32 → Int32 → Int64 → Int64 → Int64 → Int32 → Int32 → Int32 → (Nat → Int64) → (Nat → Int64) → Option R_pM_since} {self_j : Int → Int → Int → Int → Int → Int → Int → Int → Int → Int → Int → Int → Int → Int → Int → (Nat → Int) → (Nat → Int) → Option R_iM_since} (t_self : ∀ (q0_ : Int32) (q1_ : Int32) (q2_ : Int64) (q3_ : Int64) (q4_ : Int64) (q5_ : Int32) (q6_ : Int32) (q7_ : Int32) (q8_ : Int32) (q9_ : Int64) (q10_ : Int64) (q11_ : Int64) (q12_ : Int32) (q13_ : Int32) (q14_ : Int32) (q15_ : (Nat → Int64)) (q16_ : (Nat → Int64)), tl (mP mI (mP mJ (mP mJ (mP mJ (mP mI (mP mI (mP mI (mP mI (mP mJ (mP mJ (mP mJ (mP mI (mP mI (mP mI (mP mA (mP mA (mP mA (mP mA (mP mL mL))))))))))))))))))) (self_j (mI q0_) (mI q1_) (mJ q2_) (mJ q3_) (mJ q4_) (mI q5_) (mI q6_) (mI q7_) (mI q8_) (mJ q9_) (mJ q10_) (mJ q11_) (mI q12_) (mI q13_) (mI q14_) (mL q15_) (mL q16_)) (self q0_ q1_ q2_ q3_ q4_ q5_ q6_ q7_ q8_ q9_ q10_ q11_ q12_ q13_ q14_ q15_ q16_)) {x3 : Int64} {x3_j : Int} (t_x3 : mJ x3 = x3_j) {x5 : Int32} {x5_j : Int} (t_x5 : mI x5 = x5_j) {s0 : Int32} {s0_j : Int} (t_s0 : mI s0 = s0_j) {v_allowed : Int64} {v_allowed_j : Int} (t_v_allowed : mJ v_allowed = v_allowed_j) {v_debt : Int64} {v_debt_j : Int} (t_v_debt : mJ v_debt = v_debt_j) {v_farms : Int64} {v_farms_j : Int} (t_v_farms : mJ v_farms = v_farms_j) {v_isBlanchedNow : Int32} {v_isBlanchedNow_j : Int} (t_v_isBlanchedNow : mI v_isBlanchedNow = v_isBlanchedNow_j) {v_knownAt : Int32} {v_knownAt_j : Int} (t_v_knownAt : mI v_knownAt = v_knownAt_j) {v_movedAct : Int32} {v_movedAct_j : Int} (t_v_movedAct : mI v_movedAct = v_movedAct_j) {v_now : Int32} {v_now_j : Int} (t_v_now : mI v_now = v_now_j) {v_paid : Int64} {v_paid_j : Int} (t_v_paid : mJ v_paid = v_paid_j) {v_paidTold : Int64} {v_paidTold_j : Int} (t_v_paidTold : mJ v_paidTold = v_paidTold_j) {v_pardoned : Int64} {v_pardoned_j : Int} (t_v_pardoned : mJ v_pardoned = v_pardoned_j) {v_piled : Int32} {v_piled_j : Int} (t_v_piled : mI v_piled = v_piled_j) {v_shireNow : Int32} {v_shireNow_j : Int} (t_v_shireNow : mI v_shireNow = v_shireNow_j) {v_without : Int32} {v_without_j : Int} (t_v_without : mI v_without = v_without_j) {v_best : (Nat → Int32)} {v_best_j : (Nat → Int)} (t_v_best : mA v_best = v_best_j) {v_cost : (Nat → Int32)} {v_cost_j : (Nat → Int)} (t_v_cost : mA v_cost = v_cost_j) {v_fits : (Nat → Int32)} {v_fits_j : (Nat → Int)} (t_v_fits : mA v_fits = v_fits_j) {v_mates : (Nat → Int32)} {v_mates_j : (Nat → Int)} (t_v_mates : mA v_mates = v_mates_j) {v_off : (Nat → Int64)} {v_off_j : (Nat → Int)} (t_v_off : mL v_off = v_off_j) {v_pile : (Nat → Int64)} {v_pile_j : (Nat → Int)} (t_v_pile : mL v_pile = v_pile_j) : tl (mP mI (mP mJ (mP mJ (mP mJ (mP mI (mP mI (mP mI (mP mI (mP mJ (mP mJ (mP mJ (mP mI (mP mI (mP mI (mP mA (mP mA (mP mA (mP mA (mP mL mL))))))))))))))))))) (iM_since_b78 N_j a1_j a2_j v_acts_j v_grain_j v_limit_j v_lost_j v_movedTerm_j v_actKind_j v_actNumber_j v_actShire_j v_actTerm_j v_codes_j v_cutAt_j v_cutWorth_j v_cuts_j v_first_j v_isBlanched_j v_many_j v_pence_j v_second_j v_sort_j v_sumEnd_j v_sumFrom_j v_testEnd_j v_voidAt_j self_j x3_j x5_j s0_j v_allowed_j v_debt_j v_farms_j v_isBlanchedNow_j v_knownAt_j v_movedAct_j v_now_j v_paid_j v_paidTold_j v_pardoned_j v_piled_j v_shireNow_j v_without_j v_best_j v_cost_j v_fits_j v_mates_j v_off_j v_pile_j) (pM_since_b78 N a1 a2 v_acts v_grain v_limit v_lost v_movedTerm v_actKind v_actNumber v_actShire v_actTerm v_codes v_cutAt v_cutWorth v_cuts v_first v_isBlanched v_many v_pence v_second v_sort v_sumEnd v_sumFrom v_testEnd v_voidAt self x3 x5 s0 v_allowed v_debt v_farms v_isBlanchedNow v_knownAt v_movedAct v_now v_paid v_paidTold v_pardoned v_piled v_shireNow v_without v_best v_cost v_fits v_mates v_off v_pile) := by
  subst t_N
  subst t_a1
  subst t_a2
  subst t_v_acts
  subst t_v_grain
  subst t_v_limit
  subst t_v_lost
  subst t_v_movedTerm
  subst t_v_actKind
  subst t_v_actNumber
  subst t_v_actShire
  subst t_v_actTerm
  subst t_v_codes
  subst t_v_cutAt
  subst t_v_cutWorth
  subst t_v_cuts
  subst t_v_first
  subst t_v_isBlanched
  subst t_v_many
  subst t_v_pence
  subst t_v_second
  subst t_v_sort
  subst t_v_sumEnd
  subst t_v_sumFrom
  subst t_v_testEnd
  subst t_v_voidAt
  subst t_x3
  subst t_x5
  subst t_s0
  subst t_v_allowed
  subst t_v_debt
  subst t_v_farms
  subst t_v_isBlanchedNow
  subst t_v_knownAt
  subst t_v_movedAct
  subst t_v_now
  subst t_v_paid
  subst t_v_paidTold
  subst t_v_pardoned
  subst t_v_piled
  subst t_v_shireNow
  subst t_v_without
  subst t_v_best
  subst t_v_cost
  subst t_v_fits
  subst t_v_mates
  subst t_v_off
  subst t_v_pile
  unfold iM_since_b78 pM_since_b78
  refine tl_ite (jc_eq (Eq.refl (mI s0)) jlitI_0) ?_ ?_
  · exact (tl_e17 (Eq.refl (mI x5)) (Eq.refl (mI s0)) (Eq.refl (mJ v_allowed)) (Eq.refl (mJ v_debt)) (Eq.refl (mJ v_farms)) (Eq.refl (mI v_isBlanchedNow)) (Eq.refl (mI v_knownAt)) (Eq.refl (mI v_movedAct)) (Eq.refl (mI v_now)) (Eq.refl (mJ v_paid)) (Eq.refl (mJ v_paidTold)) (Eq.refl (mJ v_pardoned)) (Eq.refl (mI v_piled)) (Eq.refl (mI v_shireNow)) (Eq.refl (mI v_without)) (Eq.refl (mL v_off)) (Eq.refl (mL v_pile)) (t_self _ _ _ _ _ _ _ _ _ _ _ _ _ _ _ _ _))
  · refine tl_g (fun h1 => ?_)
    exact (tl_e17 (ja_add (Eq.refl (mI x5)) jlitI_m1 h1) (Eq.refl (mI s0)) (Eq.refl (mJ v_allowed)) (Eq.refl (mJ v_debt)) (Eq.refl (mJ v_farms)) (Eq.refl (mI v_isBlanchedNow)) (Eq.refl (mI v_knownAt)) (Eq.refl (mI v_movedAct)) (Eq.refl (mI v_now)) (Eq.refl (mJ v_paid)) (Eq.refl (mJ v_paidTold)) (Eq.refl (mJ v_pardoned)) (Eq.refl (mI v_piled)) (Eq.refl (mI v_shireNow)) (Eq.refl (mI v_without)) (Eq.refl (mL v_off)) (Eq.refl (mL v_pile)) (t_self _ _ _ _ _ _ _ _ _ _ _ _ _ _ _ _ _))
theorem t_pM_since_b44_F {N N_j : Nat} (t_N : N = N_j) {a1 : Int32} {a1_j : Int} (t_a1 : mI a1 = a1_j) {a2 : Int32} {a2_j : Int} (t_a2 : mI a2 = a2_j) {v_acts : Int32} {v_acts_j : Int} (t_v_acts : mI v_acts = v_acts_j) {v_grain : Int32} {v_grain_j : Int} (t_v_grain : mI v_grain = v_grain_j) {v_limit : Int32} {v_limit_j : Int} (t_v_limit : mI v_limit = v_limit_j) {v_lost : Int32} {v_lost_j : Int} (t_v_lost : mI v_lost = v_lost_j) {v_movedTerm : Int32} {v_movedTerm_j : Int} (t_v_movedTerm : mI v_movedTerm = v_movedTerm_j) {v_actKind : (Nat → Int32)} {v_actKind_j : (Nat → Int)} (t_v_actKind : mA v_actKind = v_actKind_j) {v_actNumber : (Nat → Int32)} {v_actNumber_j : (Nat → Int)} (t_v_actNumber : mA v_actNumber = v_actNumber_j) {v_actShire : (Nat → Int32)} {v_actShire_j : (Nat → Int)} (t_v_actShire : mA v_actShire = v_actShire_j) {v_actTerm : (Nat → Int32)} {v_actTerm_j : (Nat → Int)} (t_v_actTerm : mA v_actTerm = v_actTerm_j) {v_codes : (Nat → Int32)} {v_codes_j : (Nat → Int)} (t_v_codes : mA v_codes = v_codes_j) {v_cutAt : (Nat → Int32)} {v_cutAt_j : (Nat → Int)} (t_v_cutAt : mA v_cutAt = v_cutAt_j) {v_cutWorth : (Nat → Int32)} {v_cutWorth_j : (Nat → Int)} (t_v_cutWorth : mA v_cutWorth = v_cutWorth_j) {v_cuts : (Nat → Int32)} {v_cuts_j : (Nat → Int)} (t_v_cuts : mA v_cuts = v_cuts_j) {v_first : (Nat → Int32)} {v_first_j : (Nat → Int)} (t_v_first : mA v_first = v_first_j) {v_isBlanched : (Nat → Int32)} {v_isBlanched_j : (Nat → Int)} (t_v_isBlanched : mA v_isBlanched = v_isBlanched_j) {v_many : (Nat → Int32)} {v_many_j : (Nat → Int)} (t_v_many : mA v_many = v_many_j) {v_pence : (Nat → Int32)} {v_pence_j : (Nat → Int)} (t_v_pence : mA v_pence = v_pence_j) {v_second : (Nat → Int32)} {v_second_j : (Nat → Int)} (t_v_second : mA v_second = v_second_j) {v_sort : (Nat → Int32)} {v_sort_j : (Nat → Int)} (t_v_sort : mA v_sort = v_sort_j) {v_sumEnd : (Nat → Int32)} {v_sumEnd_j : (Nat → Int)} (t_v_sumEnd : mA v_sumEnd = v_sumEnd_j) {v_sumFrom : (Nat → Int32)} {v_sumFrom_j : (Nat → Int)} (t_v_sumFrom : mA v_sumFrom = v_sumFrom_j) {v_testEnd : (Nat → Int32)} {v_testEnd_j : (Nat → Int)} (t_v_testEnd : mA v_testEnd = v_testEnd_j) {v_voidAt : (Nat → Int32)} {v_voidAt_j : (Nat → Int)} (t_v_voidAt : mA v_voidAt = v_voidAt_j) {x3 : Int64} {x3_j : Int} (t_x3 : mJ x3 = x3_j) {v_best : (Nat → Int32)} {v_best_j : (Nat → Int)} (t_v_best : mA v_best = v_best_j) {v_cost : (Nat → Int32)} {v_cost_j : (Nat → Int)} (t_v_cost : mA v_cost = v_cost_j) {v_fits : (Nat → Int32)} {v_fits_j : (Nat → Int)} (t_v_fits : mA v_fits = v_fits_j) {v_mates : (Nat → Int32)} {v_mates_j : (Nat → Int)} (t_v_mates : mA v_mates = v_mates_j) {self : Int32 → Int32 → Int64 → Int64 → Int64 → Int32 → Int32 → Int32 → Int32 → Int64 → Int64 → Int64 → Int32 → Int32 → Int32 → (Nat → Int64) → (Nat → Int64) → Option R_pM_since} {self_j : Int → Int → Int → Int → Int → Int → Int → Int → Int → Int → Int → Int → Int → Int → Int → (Nat → Int) → (Nat → Int) → Option R_iM_since} (t_self : ∀ (q0_ : Int32) (q1_ : Int32) (q2_ : Int64) (q3_ : Int64) (q4_ : Int64) (q5_ : Int32) (q6_ : Int32) (q7_ : Int32) (q8_ : Int32) (q9_ : Int64) (q10_ : Int64) (q11_ : Int64) (q12_ : Int32) (q13_ : Int32) (q14_ : Int32) (q15_ : (Nat → Int64)) (q16_ : (Nat → Int64)), tl (mP mI (mP mJ (mP mJ (mP mJ (mP mI (mP mI (mP mI (mP mI (mP mJ (mP mJ (mP mJ (mP mI (mP mI (mP mI (mP mA (mP mA (mP mA (mP mA (mP mL mL))))))))))))))))))) (self_j (mI q0_) (mI q1_) (mJ q2_) (mJ q3_) (mJ q4_) (mI q5_) (mI q6_) (mI q7_) (mI q8_) (mJ q9_) (mJ q10_) (mJ q11_) (mI q12_) (mI q13_) (mI q14_) (mL q15_) (mL q16_)) (self q0_ q1_ q2_ q3_ q4_ q5_ q6_ q7_ q8_ q9_ q10_ q11_ q12_ q13_ q14_ q15_ q16_)) {x5 : Int32} {x5_j : Int} (t_x5 : mI x5 = x5_j) {x6 : Int32} {x6_j : Int} (t_x6 : mI x6 = x6_j) {v_allowed : Int64} {v_allowed_j : Int} (t_v_allowed : mJ v_allowed = v_allowed_j) {v_debt : Int64} {v_debt_j : Int} (t_v_debt : mJ v_debt = v_debt_j) {v_farms : Int64} {v_farms_j : Int} (t_v_farms : mJ v_farms = v_farms_j) {v_isBlanchedNow : Int32} {v_isBlanchedNow_j : Int} (t_v_isBlanchedNow : mI v_isBlanchedNow = v_isBlanchedNow_j) {v_knownAt : Int32} {v_knownAt_j : Int} (t_v_knownAt : mI v_knownAt = v_knownAt_j) {v_movedAct : Int32} {v_movedAct_j : Int} (t_v_movedAct : mI v_movedAct = v_movedAct_j) {v_now : Int32} {v_now_j : Int} (t_v_now : mI v_now = v_now_j) {v_paid : Int64} {v_paid_j : Int} (t_v_paid : mJ v_paid = v_paid_j) {v_paidTold : Int64} {v_paidTold_j : Int} (t_v_paidTold : mJ v_paidTold = v_paidTold_j) {v_pardoned : Int64} {v_pardoned_j : Int} (t_v_pardoned : mJ v_pardoned = v_pardoned_j) {v_piled : Int32} {v_piled_j : Int} (t_v_piled : mI v_piled = v_piled_j) {v_shireNow : Int32} {v_shireNow_j : Int} (t_v_shireNow : mI v_shireNow = v_shireNow_j) {v_without : Int32} {v_without_j : Int} (t_v_without : mI v_without = v_without_j) {v_off : (Nat → Int64)} {v_off_j : (Nat → Int)} (t_v_off : mL v_off = v_off_j) {v_pile : (Nat → Int64)} {v_pile_j : (Nat → Int)} (t_v_pile : mL v_pile = v_pile_j) : tl (mP mI (mP mJ (mP mJ (mP mJ (mP mI (mP mI (mP mI (mP mI (mP mJ (mP mJ (mP mJ (mP mI (mP mI (mP mI (mP mA (mP mA (mP mA (mP mA (mP mL mL))))))))))))))))))) (iM_since_b44_F N_j a1_j a2_j v_acts_j v_grain_j v_limit_j v_lost_j v_movedTerm_j v_actKind_j v_actNumber_j v_actShire_j v_actTerm_j v_codes_j v_cutAt_j v_cutWorth_j v_cuts_j v_first_j v_isBlanched_j v_many_j v_pence_j v_second_j v_sort_j v_sumEnd_j v_sumFrom_j v_testEnd_j v_voidAt_j x3_j v_best_j v_cost_j v_fits_j v_mates_j self_j x5_j x6_j v_allowed_j v_debt_j v_farms_j v_isBlanchedNow_j v_knownAt_j v_movedAct_j v_now_j v_paid_j v_paidTold_j v_pardoned_j v_piled_j v_shireNow_j v_without_j v_off_j v_pile_j) (pM_since_b44_F N a1 a2 v_acts v_grain v_limit v_lost v_movedTerm v_actKind v_actNumber v_actShire v_actTerm v_codes v_cutAt v_cutWorth v_cuts v_first v_isBlanched v_many v_pence v_second v_sort v_sumEnd v_sumFrom v_testEnd v_voidAt x3 v_best v_cost v_fits v_mates self x5 x6 v_allowed v_debt v_farms v_isBlanchedNow v_knownAt v_movedAct v_now v_paid v_paidTold v_pardoned v_piled v_shireNow v_without v_off v_pile) := by
  subst t_N
  subst t_a1
  subst t_a2
  subst t_v_acts
  subst t_v_grain
  subst t_v_limit
  subst t_v_lost
  subst t_v_movedTerm
  subst t_v_actKind
  subst t_v_actNumber
  subst t_v_actShire
  subst t_v_actTerm
  subst t_v_codes
  subst t_v_cutAt
  subst t_v_cutWorth
  subst t_v_cuts
  subst t_v_first
  subst t_v_isBlanched
  subst t_v_many
  subst t_v_pence
  subst t_v_second
  subst t_v_sort
  subst t_v_sumEnd
  subst t_v_sumFrom
  subst t_v_testEnd
  subst t_v_voidAt
  subst t_x3
  subst t_v_best
  subst t_v_cost
  subst t_v_fits
  subst t_v_mates
  subst t_x5
  subst t_x6
  subst t_v_allowed
  subst t_v_debt
  subst t_v_farms
  subst t_v_isBlanchedNow
  subst t_v_knownAt
  subst t_v_movedAct
  subst t_v_now
  subst t_v_paid
  subst t_v_paidTold
  subst t_v_pardoned
  subst t_v_piled
  subst t_v_shireNow
  subst t_v_without
  subst t_v_off
  subst t_v_pile
  unfold iM_since_b44_F pM_since_b44_F
  refine tl_ite (jc_eq (Eq.refl (mI x6)) jlitI_0) ?_ ?_
  · exact (tl_some (jp2 (Eq.refl (mI x5)) (jp2 (Eq.refl (mJ v_allowed)) (jp2 (Eq.refl (mJ v_debt)) (jp2 (Eq.refl (mJ v_farms)) (jp2 (Eq.refl (mI v_isBlanchedNow)) (jp2 (Eq.refl (mI v_knownAt)) (jp2 (Eq.refl (mI v_movedAct)) (jp2 (Eq.refl (mI v_now)) (jp2 (Eq.refl (mJ v_paid)) (jp2 (Eq.refl (mJ v_paidTold)) (jp2 (Eq.refl (mJ v_pardoned)) (jp2 (Eq.refl (mI v_piled)) (jp2 (Eq.refl (mI v_shireNow)) (jp2 (Eq.refl (mI v_without)) (jp2 (Eq.refl (mA v_best)) (jp2 (Eq.refl (mA v_cost)) (jp2 (Eq.refl (mA v_fits)) (jp2 (Eq.refl (mA v_mates)) (jp2 (Eq.refl (mL v_off)) (Eq.refl (mL v_pile))))))))))))))))))))))
  · refine tl_ite (jc_le (Eq.refl (mI x5)) jlitI_0) ?_ ?_
    · exact (tl_some (jp2 (Eq.refl (mI x5)) (jp2 (Eq.refl (mJ v_allowed)) (jp2 (Eq.refl (mJ v_debt)) (jp2 (Eq.refl (mJ v_farms)) (jp2 (Eq.refl (mI v_isBlanchedNow)) (jp2 (Eq.refl (mI v_knownAt)) (jp2 (Eq.refl (mI v_movedAct)) (jp2 (Eq.refl (mI v_now)) (jp2 (Eq.refl (mJ v_paid)) (jp2 (Eq.refl (mJ v_paidTold)) (jp2 (Eq.refl (mJ v_pardoned)) (jp2 (Eq.refl (mI v_piled)) (jp2 (Eq.refl (mI v_shireNow)) (jp2 (Eq.refl (mI v_without)) (jp2 (Eq.refl (mA v_best)) (jp2 (Eq.refl (mA v_cost)) (jp2 (Eq.refl (mA v_fits)) (jp2 (Eq.refl (mA v_mates)) (jp2 (Eq.refl (mL v_off)) (Eq.refl (mL v_pile))))))))))))))))))))))
    · refine tl_g (fun h1 => ?_)
      refine tl_bd3 (t_pM_tellsAsKnown (ja_sub (Eq.refl (mI x5)) jlitI_1 h1) (Eq.refl (mI v_knownAt)) (Eq.refl (mI v_movedAct)) (Eq.refl (mI v_without))) (fun v_knownAt_c6 v_movedAct_c6 v_without_c6 => ?_)
      refine tl_bd13 (t_pM_rolls (Eq.refl N) (Eq.refl (mI a1)) (Eq.refl (mI a2)) (Eq.refl (mI v_acts)) (Eq.refl (mJ v_allowed)) (Eq.refl (mJ v_debt)) (Eq.refl (mJ v_farms)) (Eq.refl (mI v_isBlanchedNow)) (Eq.refl (mI v_knownAt_c6)) (Eq.refl (mI v_movedAct_c6)) (Eq.refl (mI v_movedTerm)) (Eq.refl (mI v_now)) (Eq.refl (mJ v_paid)) (Eq.refl (mJ v_paidTold)) (Eq.refl (mJ v_pardoned)) (Eq.refl (mI v_piled)) (Eq.refl (mI v_shireNow)) (Eq.refl (mI v_without_c6)) (Eq.refl (mA v_actKind)) (Eq.refl (mA v_actNumber)) (Eq.refl (mA v_actShire)) (Eq.refl (mA v_actTerm)) (Eq.refl (mA v_codes)) (Eq.refl (mA v_cutWorth)) (Eq.refl (mA v_cuts)) (Eq.refl (mA v_first)) (Eq.refl (mA v_isBlanched)) (Eq.refl (mA v_many)) (Eq.refl (mA v_mates)) (Eq.refl (mL v_off)) (Eq.refl (mA v_pence)) (Eq.refl (mL v_pile)) (Eq.refl (mA v_second)) (Eq.refl (mA v_sort)) (Eq.refl (mA v_sumEnd)) (Eq.refl (mA v_sumFrom)) (Eq.refl (mA v_testEnd)) (Eq.refl (mA v_voidAt))) (fun rc7 v_allowed_c7 v_debt_c7 v_farms_c7 v_isBlanchedNow_c7 v_now_c7 v_paid_c7 v_paidTold_c7 v_pardoned_c7 v_piled_c7 v_shireNow_c7 v_off_c7 v_pile_c7 => ?_)
      refine tl_ite (jk_eq (Eq.refl (mJ rc7)) (Eq.refl (mJ x3))) ?_ ?_
      · exact (t_pM_since_b78 (Eq.refl N) (Eq.refl (mI a1)) (Eq.refl (mI a2)) (Eq.refl (mI v_acts)) (Eq.refl (mI v_grain)) (Eq.refl (mI v_limit)) (Eq.refl (mI v_lost)) (Eq.refl (mI v_movedTerm)) (Eq.refl (mA v_actKind)) (Eq.refl (mA v_actNumber)) (Eq.refl (mA v_actShire)) (Eq.refl (mA v_actTerm)) (Eq.refl (mA v_codes)) (Eq.refl (mA v_cutAt)) (Eq.refl (mA v_cutWorth)) (Eq.refl (mA v_cuts)) (Eq.refl (mA v_first)) (Eq.refl (mA v_isBlanched)) (Eq.refl (mA v_many)) (Eq.refl (mA v_pence)) (Eq.refl (mA v_second)) (Eq.refl (mA v_sort)) (Eq.refl (mA v_sumEnd)) (Eq.refl (mA v_sumFrom)) (Eq.refl (mA v_testEnd)) (Eq.refl (mA v_voidAt)) t_self (Eq.refl (mJ x3)) (Eq.refl (mI x5)) jlitI_1 (Eq.refl (mJ v_allowed_c7)) (Eq.refl (mJ v_debt_c7)) (Eq.refl (mJ v_farms_c7)) (Eq.refl (mI v_isBlanchedNow_c7)) (Eq.refl (mI v_knownAt_c6)) (Eq.refl (mI v_movedAct_c6)) (Eq.refl (mI v_now_c7)) (Eq.refl (mJ v_paid_c7)) (Eq.refl (mJ v_paidTold_c7)) (Eq.refl (mJ v_pardoned_c7)) (Eq.refl (mI v_piled_c7)) (Eq.refl (mI v_shireNow_c7)) (Eq.refl (mI v_without_c6)) (Eq.refl (mA v_best)) (Eq.refl (mA v_cost)) (Eq.refl (mA v_fits)) (Eq.refl (mA v_mates)) (Eq.refl (mL v_off_c7)) (Eq.refl (mL v_pile_c7)))
      · exact (t_pM_since_b78 (Eq.refl N) (Eq.refl (mI a1)) (Eq.refl (mI a2)) (Eq.refl (mI v_acts)) (Eq.refl (mI v_grain)) (Eq.refl (mI v_limit)) (Eq.refl (mI v_lost)) (Eq.refl (mI v_movedTerm)) (Eq.refl (mA v_actKind)) (Eq.refl (mA v_actNumber)) (Eq.refl (mA v_actShire)) (Eq.refl (mA v_actTerm)) (Eq.refl (mA v_codes)) (Eq.refl (mA v_cutAt)) (Eq.refl (mA v_cutWorth)) (Eq.refl (mA v_cuts)) (Eq.refl (mA v_first)) (Eq.refl (mA v_isBlanched)) (Eq.refl (mA v_many)) (Eq.refl (mA v_pence)) (Eq.refl (mA v_second)) (Eq.refl (mA v_sort)) (Eq.refl (mA v_sumEnd)) (Eq.refl (mA v_sumFrom)) (Eq.refl (mA v_testEnd)) (Eq.refl (mA v_voidAt)) t_self (Eq.refl (mJ x3)) (Eq.refl (mI x5)) jlitI_0 (Eq.refl (mJ v_allowed_c7)) (Eq.refl (mJ v_debt_c7)) (Eq.refl (mJ v_farms_c7)) (Eq.refl (mI v_isBlanchedNow_c7)) (Eq.refl (mI v_knownAt_c6)) (Eq.refl (mI v_movedAct_c6)) (Eq.refl (mI v_now_c7)) (Eq.refl (mJ v_paid_c7)) (Eq.refl (mJ v_paidTold_c7)) (Eq.refl (mJ v_pardoned_c7)) (Eq.refl (mI v_piled_c7)) (Eq.refl (mI v_shireNow_c7)) (Eq.refl (mI v_without_c6)) (Eq.refl (mA v_best)) (Eq.refl (mA v_cost)) (Eq.refl (mA v_fits)) (Eq.refl (mA v_mates)) (Eq.refl (mL v_off_c7)) (Eq.refl (mL v_pile_c7)))
theorem t_pM_since_b44 {N N_j : Nat} (t_N : N = N_j) {a1 : Int32} {a1_j : Int} (t_a1 : mI a1 = a1_j) {a2 : Int32} {a2_j : Int} (t_a2 : mI a2 = a2_j) {v_acts : Int32} {v_acts_j : Int} (t_v_acts : mI v_acts = v_acts_j) {v_grain : Int32} {v_grain_j : Int} (t_v_grain : mI v_grain = v_grain_j) {v_limit : Int32} {v_limit_j : Int} (t_v_limit : mI v_limit = v_limit_j) {v_lost : Int32} {v_lost_j : Int} (t_v_lost : mI v_lost = v_lost_j) {v_movedTerm : Int32} {v_movedTerm_j : Int} (t_v_movedTerm : mI v_movedTerm = v_movedTerm_j) {v_actKind : (Nat → Int32)} {v_actKind_j : (Nat → Int)} (t_v_actKind : mA v_actKind = v_actKind_j) {v_actNumber : (Nat → Int32)} {v_actNumber_j : (Nat → Int)} (t_v_actNumber : mA v_actNumber = v_actNumber_j) {v_actShire : (Nat → Int32)} {v_actShire_j : (Nat → Int)} (t_v_actShire : mA v_actShire = v_actShire_j) {v_actTerm : (Nat → Int32)} {v_actTerm_j : (Nat → Int)} (t_v_actTerm : mA v_actTerm = v_actTerm_j) {v_codes : (Nat → Int32)} {v_codes_j : (Nat → Int)} (t_v_codes : mA v_codes = v_codes_j) {v_cutAt : (Nat → Int32)} {v_cutAt_j : (Nat → Int)} (t_v_cutAt : mA v_cutAt = v_cutAt_j) {v_cutWorth : (Nat → Int32)} {v_cutWorth_j : (Nat → Int)} (t_v_cutWorth : mA v_cutWorth = v_cutWorth_j) {v_cuts : (Nat → Int32)} {v_cuts_j : (Nat → Int)} (t_v_cuts : mA v_cuts = v_cuts_j) {v_first : (Nat → Int32)} {v_first_j : (Nat → Int)} (t_v_first : mA v_first = v_first_j) {v_isBlanched : (Nat → Int32)} {v_isBlanched_j : (Nat → Int)} (t_v_isBlanched : mA v_isBlanched = v_isBlanched_j) {v_many : (Nat → Int32)} {v_many_j : (Nat → Int)} (t_v_many : mA v_many = v_many_j) {v_pence : (Nat → Int32)} {v_pence_j : (Nat → Int)} (t_v_pence : mA v_pence = v_pence_j) {v_second : (Nat → Int32)} {v_second_j : (Nat → Int)} (t_v_second : mA v_second = v_second_j) {v_sort : (Nat → Int32)} {v_sort_j : (Nat → Int)} (t_v_sort : mA v_sort = v_sort_j) {v_sumEnd : (Nat → Int32)} {v_sumEnd_j : (Nat → Int)} (t_v_sumEnd : mA v_sumEnd = v_sumEnd_j) {v_sumFrom : (Nat → Int32)} {v_sumFrom_j : (Nat → Int)} (t_v_sumFrom : mA v_sumFrom = v_sumFrom_j) {v_testEnd : (Nat → Int32)} {v_testEnd_j : (Nat → Int)} (t_v_testEnd : mA v_testEnd = v_testEnd_j) {v_voidAt : (Nat → Int32)} {v_voidAt_j : (Nat → Int)} (t_v_voidAt : mA v_voidAt = v_voidAt_j) {x3 : Int64} {x3_j : Int} (t_x3 : mJ x3 = x3_j) {v_best : (Nat → Int32)} {v_best_j : (Nat → Int)} (t_v_best : mA v_best = v_best_j) {v_cost : (Nat → Int32)} {v_cost_j : (Nat → Int)} (t_v_cost : mA v_cost = v_cost_j) {v_fits : (Nat → Int32)} {v_fits_j : (Nat → Int)} (t_v_fits : mA v_fits = v_fits_j) {v_mates : (Nat → Int32)} {v_mates_j : (Nat → Int)} (t_v_mates : mA v_mates = v_mates_j) {n n_j : Nat} (t_n : n = n_j) {w0_ : Int32} {w0__j : Int} (t_w0_ : mI w0_ = w0__j) {w1_ : Int32} {w1__j : Int} (t_w1_ : mI w1_ = w1__j) {w2_ : Int64} {w2__j : Int} (t_w2_ : mJ w2_ = w2__j) {w3_ : Int64} {w3__j : Int} (t_w3_ : mJ w3_ = w3__j) {w4_ : Int64} {w4__j : Int} (t_w4_ : mJ w4_ = w4__j) {w5_ : Int32} {w5__j : Int} (t_w5_ : mI w5_ = w5__j) {w6_ : Int32} {w6__j : Int} (t_w6_ : mI w6_ = w6__j) {w7_ : Int32} {w7__j : Int} (t_w7_ : mI w7_ = w7__j) {w8_ : Int32} {w8__j : Int} (t_w8_ : mI w8_ = w8__j) {w9_ : Int64} {w9__j : Int} (t_w9_ : mJ w9_ = w9__j) {w10_ : Int64} {w10__j : Int} (t_w10_ : mJ w10_ = w10__j) {w11_ : Int64} {w11__j : Int} (t_w11_ : mJ w11_ = w11__j) {w12_ : Int32} {w12__j : Int} (t_w12_ : mI w12_ = w12__j) {w13_ : Int32} {w13__j : Int} (t_w13_ : mI w13_ = w13__j) {w14_ : Int32} {w14__j : Int} (t_w14_ : mI w14_ = w14__j) {w15_ : (Nat → Int64)} {w15__j : (Nat → Int)} (t_w15_ : mL w15_ = w15__j) {w16_ : (Nat → Int64)} {w16__j : (Nat → Int)} (t_w16_ : mL w16_ = w16__j) : tl (mP mI (mP mJ (mP mJ (mP mJ (mP mI (mP mI (mP mI (mP mI (mP mJ (mP mJ (mP mJ (mP mI (mP mI (mP mI (mP mA (mP mA (mP mA (mP mA (mP mL mL))))))))))))))))))) (iM_since_b44 N_j a1_j a2_j v_acts_j v_grain_j v_limit_j v_lost_j v_movedTerm_j v_actKind_j v_actNumber_j v_actShire_j v_actTerm_j v_codes_j v_cutAt_j v_cutWorth_j v_cuts_j v_first_j v_isBlanched_j v_many_j v_pence_j v_second_j v_sort_j v_sumEnd_j v_sumFrom_j v_testEnd_j v_voidAt_j x3_j v_best_j v_cost_j v_fits_j v_mates_j n_j w0__j w1__j w2__j w3__j w4__j w5__j w6__j w7__j w8__j w9__j w10__j w11__j w12__j w13__j w14__j w15__j w16__j) (pM_since_b44 N a1 a2 v_acts v_grain v_limit v_lost v_movedTerm v_actKind v_actNumber v_actShire v_actTerm v_codes v_cutAt v_cutWorth v_cuts v_first v_isBlanched v_many v_pence v_second v_sort v_sumEnd v_sumFrom v_testEnd v_voidAt x3 v_best v_cost v_fits v_mates n w0_ w1_ w2_ w3_ w4_ w5_ w6_ w7_ w8_ w9_ w10_ w11_ w12_ w13_ w14_ w15_ w16_) := by
  subst t_N
  subst t_a1
  subst t_a2
  subst t_v_acts
  subst t_v_grain
  subst t_v_limit
  subst t_v_lost
  subst t_v_movedTerm
  subst t_v_actKind
  subst t_v_actNumber
  subst t_v_actShire
  subst t_v_actTerm
  subst t_v_codes
  subst t_v_cutAt
  subst t_v_cutWorth
  subst t_v_cuts
  subst t_v_first
  subst t_v_isBlanched
  subst t_v_many
  subst t_v_pence
  subst t_v_second
  subst t_v_sort
  subst t_v_sumEnd
  subst t_v_sumFrom
  subst t_v_testEnd
  subst t_v_voidAt
  subst t_x3
  subst t_v_best
  subst t_v_cost
  subst t_v_fits
  subst t_v_mates
  subst t_n
  subst t_w0_
  subst t_w1_
  subst t_w2_
  subst t_w3_
  subst t_w4_
  subst t_w5_
  subst t_w6_
  subst t_w7_
  subst t_w8_
  subst t_w9_
  subst t_w10_
  subst t_w11_
  subst t_w12_
  subst t_w13_
  subst t_w14_
  subst t_w15_
  subst t_w16_
  exact tl_zlp17 (fun s2 s hs w0_ w1_ w2_ w3_ w4_ w5_ w6_ w7_ w8_ w9_ w10_ w11_ w12_ w13_ w14_ w15_ w16_ => t_pM_since_b44_F (Eq.refl N) (Eq.refl (mI a1)) (Eq.refl (mI a2)) (Eq.refl (mI v_acts)) (Eq.refl (mI v_grain)) (Eq.refl (mI v_limit)) (Eq.refl (mI v_lost)) (Eq.refl (mI v_movedTerm)) (Eq.refl (mA v_actKind)) (Eq.refl (mA v_actNumber)) (Eq.refl (mA v_actShire)) (Eq.refl (mA v_actTerm)) (Eq.refl (mA v_codes)) (Eq.refl (mA v_cutAt)) (Eq.refl (mA v_cutWorth)) (Eq.refl (mA v_cuts)) (Eq.refl (mA v_first)) (Eq.refl (mA v_isBlanched)) (Eq.refl (mA v_many)) (Eq.refl (mA v_pence)) (Eq.refl (mA v_second)) (Eq.refl (mA v_sort)) (Eq.refl (mA v_sumEnd)) (Eq.refl (mA v_sumFrom)) (Eq.refl (mA v_testEnd)) (Eq.refl (mA v_voidAt)) (Eq.refl (mJ x3)) (Eq.refl (mA v_best)) (Eq.refl (mA v_cost)) (Eq.refl (mA v_fits)) (Eq.refl (mA v_mates)) hs (Eq.refl (mI w0_)) (Eq.refl (mI w1_)) (Eq.refl (mJ w2_)) (Eq.refl (mJ w3_)) (Eq.refl (mJ w4_)) (Eq.refl (mI w5_)) (Eq.refl (mI w6_)) (Eq.refl (mI w7_)) (Eq.refl (mI w8_)) (Eq.refl (mJ w9_)) (Eq.refl (mJ w10_)) (Eq.refl (mJ w11_)) (Eq.refl (mI w12_)) (Eq.refl (mI w13_)) (Eq.refl (mI w14_)) (Eq.refl (mL w15_)) (Eq.refl (mL w16_))) n w0_ w1_ w2_ w3_ w4_ w5_ w6_ w7_ w8_ w9_ w10_ w11_ w12_ w13_ w14_ w15_ w16_
theorem t_pM_since {N N_j : Nat} (t_N : N = N_j) {a1 : Int32} {a1_j : Int} (t_a1 : mI a1 = a1_j) {a2 : Int32} {a2_j : Int} (t_a2 : mI a2 = a2_j) {v_acts : Int32} {v_acts_j : Int} (t_v_acts : mI v_acts = v_acts_j) {v_allowed : Int64} {v_allowed_j : Int} (t_v_allowed : mJ v_allowed = v_allowed_j) {v_debt : Int64} {v_debt_j : Int} (t_v_debt : mJ v_debt = v_debt_j) {v_farms : Int64} {v_farms_j : Int} (t_v_farms : mJ v_farms = v_farms_j) {v_grain : Int32} {v_grain_j : Int} (t_v_grain : mI v_grain = v_grain_j) {v_isBlanchedNow : Int32} {v_isBlanchedNow_j : Int} (t_v_isBlanchedNow : mI v_isBlanchedNow = v_isBlanchedNow_j) {v_knownAt : Int32} {v_knownAt_j : Int} (t_v_knownAt : mI v_knownAt = v_knownAt_j) {v_limit : Int32} {v_limit_j : Int} (t_v_limit : mI v_limit = v_limit_j) {v_lost : Int32} {v_lost_j : Int} (t_v_lost : mI v_lost = v_lost_j) {v_movedAct : Int32} {v_movedAct_j : Int} (t_v_movedAct : mI v_movedAct = v_movedAct_j) {v_movedTerm : Int32} {v_movedTerm_j : Int} (t_v_movedTerm : mI v_movedTerm = v_movedTerm_j) {v_now : Int32} {v_now_j : Int} (t_v_now : mI v_now = v_now_j) {v_paid : Int64} {v_paid_j : Int} (t_v_paid : mJ v_paid = v_paid_j) {v_paidTold : Int64} {v_paidTold_j : Int} (t_v_paidTold : mJ v_paidTold = v_paidTold_j) {v_pardoned : Int64} {v_pardoned_j : Int} (t_v_pardoned : mJ v_pardoned = v_pardoned_j) {v_piled : Int32} {v_piled_j : Int} (t_v_piled : mI v_piled = v_piled_j) {v_shireNow : Int32} {v_shireNow_j : Int} (t_v_shireNow : mI v_shireNow = v_shireNow_j) {v_without : Int32} {v_without_j : Int} (t_v_without : mI v_without = v_without_j) {v_actKind : (Nat → Int32)} {v_actKind_j : (Nat → Int)} (t_v_actKind : mA v_actKind = v_actKind_j) {v_actNumber : (Nat → Int32)} {v_actNumber_j : (Nat → Int)} (t_v_actNumber : mA v_actNumber = v_actNumber_j) {v_actShire : (Nat → Int32)} {v_actShire_j : (Nat → Int)} (t_v_actShire : mA v_actShire = v_actShire_j) {v_actTerm : (Nat → Int32)} {v_actTerm_j : (Nat → Int)} (t_v_actTerm : mA v_actTerm = v_actTerm_j) {v_best : (Nat → Int32)} {v_best_j : (Nat → Int)} (t_v_best : mA v_best = v_best_j) {v_codes : (Nat → Int32)} {v_codes_j : (Nat → Int)} (t_v_codes : mA v_codes = v_codes_j) {v_cost : (Nat → Int32)} {v_cost_j : (Nat → Int)} (t_v_cost : mA v_cost = v_cost_j) {v_cutAt : (Nat → Int32)} {v_cutAt_j : (Nat → Int)} (t_v_cutAt : mA v_cutAt = v_cutAt_j) {v_cutWorth : (Nat → Int32)} {v_cutWorth_j : (Nat → Int)} (t_v_cutWorth : mA v_cutWorth = v_cutWorth_j) {v_cuts : (Nat → Int32)} {v_cuts_j : (Nat → Int)} (t_v_cuts : mA v_cuts = v_cuts_j) {v_first : (Nat → Int32)} {v_first_j : (Nat → Int)} (t_v_first : mA v_first = v_first_j) {v_fits : (Nat → Int32)} {v_fits_j : (Nat → Int)} (t_v_fits : mA v_fits = v_fits_j) {v_isBlanched : (Nat → Int32)} {v_isBlanched_j : (Nat → Int)} (t_v_isBlanched : mA v_isBlanched = v_isBlanched_j) {v_many : (Nat → Int32)} {v_many_j : (Nat → Int)} (t_v_many : mA v_many = v_many_j) {v_mates : (Nat → Int32)} {v_mates_j : (Nat → Int)} (t_v_mates : mA v_mates = v_mates_j) {v_off : (Nat → Int64)} {v_off_j : (Nat → Int)} (t_v_off : mL v_off = v_off_j) {v_pence : (Nat → Int32)} {v_pence_j : (Nat → Int)} (t_v_pence : mA v_pence = v_pence_j) {v_pile : (Nat → Int64)} {v_pile_j : (Nat → Int)} (t_v_pile : mL v_pile = v_pile_j) {v_second : (Nat → Int32)} {v_second_j : (Nat → Int)} (t_v_second : mA v_second = v_second_j) {v_sort : (Nat → Int32)} {v_sort_j : (Nat → Int)} (t_v_sort : mA v_sort = v_sort_j) {v_sumEnd : (Nat → Int32)} {v_sumEnd_j : (Nat → Int)} (t_v_sumEnd : mA v_sumEnd = v_sumEnd_j) {v_sumFrom : (Nat → Int32)} {v_sumFrom_j : (Nat → Int)} (t_v_sumFrom : mA v_sumFrom = v_sumFrom_j) {v_testEnd : (Nat → Int32)} {v_testEnd_j : (Nat → Int)} (t_v_testEnd : mA v_testEnd = v_testEnd_j) {v_voidAt : (Nat → Int32)} {v_voidAt_j : (Nat → Int)} (t_v_voidAt : mA v_voidAt = v_voidAt_j) : tl (mP mI (mP mJ (mP mJ (mP mJ (mP mI (mP mI (mP mI (mP mI (mP mJ (mP mJ (mP mJ (mP mI (mP mI (mP mI (mP mA (mP mA (mP mA (mP mA (mP mL mL))))))))))))))))))) (iM_since N_j a1_j a2_j v_acts_j v_allowed_j v_debt_j v_farms_j v_grain_j v_isBlanchedNow_j v_knownAt_j v_limit_j v_lost_j v_movedAct_j v_movedTerm_j v_now_j v_paid_j v_paidTold_j v_pardoned_j v_piled_j v_shireNow_j v_without_j v_actKind_j v_actNumber_j v_actShire_j v_actTerm_j v_best_j v_codes_j v_cost_j v_cutAt_j v_cutWorth_j v_cuts_j v_first_j v_fits_j v_isBlanched_j v_many_j v_mates_j v_off_j v_pence_j v_pile_j v_second_j v_sort_j v_sumEnd_j v_sumFrom_j v_testEnd_j v_voidAt_j) (pM_since N a1 a2 v_acts v_allowed v_debt v_farms v_grain v_isBlanchedNow v_knownAt v_limit v_lost v_movedAct v_movedTerm v_now v_paid v_paidTold v_pardoned v_piled v_shireNow v_without v_actKind v_actNumber v_actShire v_actTerm v_best v_codes v_cost v_cutAt v_cutWorth v_cuts v_first v_fits v_isBlanched v_many v_mates v_off v_pence v_pile v_second v_sort v_sumEnd v_sumFrom v_testEnd v_voidAt) := by
  subst t_N
  subst t_a1
  subst t_a2
  subst t_v_acts
  subst t_v_allowed
  subst t_v_debt
  subst t_v_farms
  subst t_v_grain
  subst t_v_isBlanchedNow
  subst t_v_knownAt
  subst t_v_limit
  subst t_v_lost
  subst t_v_movedAct
  subst t_v_movedTerm
  subst t_v_now
  subst t_v_paid
  subst t_v_paidTold
  subst t_v_pardoned
  subst t_v_piled
  subst t_v_shireNow
  subst t_v_without
  subst t_v_actKind
  subst t_v_actNumber
  subst t_v_actShire
  subst t_v_actTerm
  subst t_v_best
  subst t_v_codes
  subst t_v_cost
  subst t_v_cutAt
  subst t_v_cutWorth
  subst t_v_cuts
  subst t_v_first
  subst t_v_fits
  subst t_v_isBlanched
  subst t_v_many
  subst t_v_mates
  subst t_v_off
  subst t_v_pence
  subst t_v_pile
  subst t_v_second
  subst t_v_sort
  subst t_v_sumEnd
  subst t_v_sumFrom
  subst t_v_testEnd
  subst t_v_voidAt
  unfold iM_since pM_since
  refine tl_bd1 (t_pM_isShire (Eq.refl (mI a1))) (fun rc1 => ?_)
  refine tl_ite (jc_eq (Eq.refl (mI rc1)) jlitI_0) ?_ ?_
  · exact (tl_some (jp2 jlitI_m1 (jp2 (Eq.refl (mJ v_allowed)) (jp2 (Eq.refl (mJ v_debt)) (jp2 (Eq.refl (mJ v_farms)) (jp2 (Eq.refl (mI v_isBlanchedNow)) (jp2 (Eq.refl (mI v_knownAt)) (jp2 (Eq.refl (mI v_movedAct)) (jp2 (Eq.refl (mI v_now)) (jp2 (Eq.refl (mJ v_paid)) (jp2 (Eq.refl (mJ v_paidTold)) (jp2 (Eq.refl (mJ v_pardoned)) (jp2 (Eq.refl (mI v_piled)) (jp2 (Eq.refl (mI v_shireNow)) (jp2 (Eq.refl (mI v_without)) (jp2 (Eq.refl (mA v_best)) (jp2 (Eq.refl (mA v_cost)) (jp2 (Eq.refl (mA v_fits)) (jp2 (Eq.refl (mA v_mates)) (jp2 (Eq.refl (mL v_off)) (Eq.refl (mL v_pile))))))))))))))))))))))
  · refine tl_bd1 (t_pM_isTerm (Eq.refl (mI a2))) (fun rc2 => ?_)
    refine tl_ite (jc_eq (Eq.refl (mI rc2)) jlitI_0) ?_ ?_
    · exact (tl_some (jp2 jlitI_m1 (jp2 (Eq.refl (mJ v_allowed)) (jp2 (Eq.refl (mJ v_debt)) (jp2 (Eq.refl (mJ v_farms)) (jp2 (Eq.refl (mI v_isBlanchedNow)) (jp2 (Eq.refl (mI v_knownAt)) (jp2 (Eq.refl (mI v_movedAct)) (jp2 (Eq.refl (mI v_now)) (jp2 (Eq.refl (mJ v_paid)) (jp2 (Eq.refl (mJ v_paidTold)) (jp2 (Eq.refl (mJ v_pardoned)) (jp2 (Eq.refl (mI v_piled)) (jp2 (Eq.refl (mI v_shireNow)) (jp2 (Eq.refl (mI v_without)) (jp2 (Eq.refl (mA v_best)) (jp2 (Eq.refl (mA v_cost)) (jp2 (Eq.refl (mA v_fits)) (jp2 (Eq.refl (mA v_mates)) (jp2 (Eq.refl (mL v_off)) (Eq.refl (mL v_pile))))))))))))))))))))))
    · refine tl_bd4 (t_pM_matches (Eq.refl N) (Eq.refl (mI v_grain)) (Eq.refl (mI v_limit)) (Eq.refl (mI v_lost)) (Eq.refl (mA v_best)) (Eq.refl (mA v_cost)) (Eq.refl (mA v_cutAt)) (Eq.refl (mA v_cutWorth)) (Eq.refl (mA v_cuts)) (Eq.refl (mA v_fits)) (Eq.refl (mA v_mates))) (fun v_best_c3 v_cost_c3 v_fits_c3 v_mates_c3 => ?_)
      refine tl_bd3 (t_pM_tellsAsKnown (Eq.refl (mI v_acts)) (Eq.refl (mI v_knownAt)) (Eq.refl (mI v_movedAct)) (Eq.refl (mI v_without))) (fun v_knownAt_c4 v_movedAct_c4 v_without_c4 => ?_)
      refine tl_bd13 (t_pM_rolls (Eq.refl N) (Eq.refl (mI a1)) (Eq.refl (mI a2)) (Eq.refl (mI v_acts)) (Eq.refl (mJ v_allowed)) (Eq.refl (mJ v_debt)) (Eq.refl (mJ v_farms)) (Eq.refl (mI v_isBlanchedNow)) (Eq.refl (mI v_knownAt_c4)) (Eq.refl (mI v_movedAct_c4)) (Eq.refl (mI v_movedTerm)) (Eq.refl (mI v_now)) (Eq.refl (mJ v_paid)) (Eq.refl (mJ v_paidTold)) (Eq.refl (mJ v_pardoned)) (Eq.refl (mI v_piled)) (Eq.refl (mI v_shireNow)) (Eq.refl (mI v_without_c4)) (Eq.refl (mA v_actKind)) (Eq.refl (mA v_actNumber)) (Eq.refl (mA v_actShire)) (Eq.refl (mA v_actTerm)) (Eq.refl (mA v_codes)) (Eq.refl (mA v_cutWorth)) (Eq.refl (mA v_cuts)) (Eq.refl (mA v_first)) (Eq.refl (mA v_isBlanched)) (Eq.refl (mA v_many)) (Eq.refl (mA v_mates_c3)) (Eq.refl (mL v_off)) (Eq.refl (mA v_pence)) (Eq.refl (mL v_pile)) (Eq.refl (mA v_second)) (Eq.refl (mA v_sort)) (Eq.refl (mA v_sumEnd)) (Eq.refl (mA v_sumFrom)) (Eq.refl (mA v_testEnd)) (Eq.refl (mA v_voidAt))) (fun rc5 v_allowed_c5 v_debt_c5 v_farms_c5 v_isBlanchedNow_c5 v_now_c5 v_paid_c5 v_paidTold_c5 v_pardoned_c5 v_piled_c5 v_shireNow_c5 v_off_c5 v_pile_c5 => ?_)
      exact (t_pM_since_b44 (Eq.refl N) (Eq.refl (mI a1)) (Eq.refl (mI a2)) (Eq.refl (mI v_acts)) (Eq.refl (mI v_grain)) (Eq.refl (mI v_limit)) (Eq.refl (mI v_lost)) (Eq.refl (mI v_movedTerm)) (Eq.refl (mA v_actKind)) (Eq.refl (mA v_actNumber)) (Eq.refl (mA v_actShire)) (Eq.refl (mA v_actTerm)) (Eq.refl (mA v_codes)) (Eq.refl (mA v_cutAt)) (Eq.refl (mA v_cutWorth)) (Eq.refl (mA v_cuts)) (Eq.refl (mA v_first)) (Eq.refl (mA v_isBlanched)) (Eq.refl (mA v_many)) (Eq.refl (mA v_pence)) (Eq.refl (mA v_second)) (Eq.refl (mA v_sort)) (Eq.refl (mA v_sumEnd)) (Eq.refl (mA v_sumFrom)) (Eq.refl (mA v_testEnd)) (Eq.refl (mA v_voidAt)) (Eq.refl (mJ rc5)) (Eq.refl (mA v_best_c3)) (Eq.refl (mA v_cost_c3)) (Eq.refl (mA v_fits_c3)) (Eq.refl (mA v_mates_c3)) (Eq.refl N) (Eq.refl (mI v_acts)) jlitI_1 (Eq.refl (mJ v_allowed_c5)) (Eq.refl (mJ v_debt_c5)) (Eq.refl (mJ v_farms_c5)) (Eq.refl (mI v_isBlanchedNow_c5)) (Eq.refl (mI v_knownAt_c4)) (Eq.refl (mI v_movedAct_c4)) (Eq.refl (mI v_now_c5)) (Eq.refl (mJ v_paid_c5)) (Eq.refl (mJ v_paidTold_c5)) (Eq.refl (mJ v_pardoned_c5)) (Eq.refl (mI v_piled_c5)) (Eq.refl (mI v_shireNow_c5)) (Eq.refl (mI v_without_c4)) (Eq.refl (mL v_off_c5)) (Eq.refl (mL v_pile_c5)))
theorem t_pM_all_b44_F {N N_j : Nat} (t_N : N = N_j) {a1 : Int32} {a1_j : Int} (t_a1 : mI a1 = a1_j) {v_acts : Int32} {v_acts_j : Int} (t_v_acts : mI v_acts = v_acts_j) {v_as : Int32} {v_as_j : Int} (t_v_as : mI v_as = v_as_j) {v_cuts : (Nat → Int32)} {v_cuts_j : (Nat → Int)} (t_v_cuts : mA v_cuts = v_cuts_j) {self : Int32 → Int32 → Option R_pM_all} {self_j : Int → Int → Option Int} (t_self : ∀ (q0_ : Int32) (q1_ : Int32), tl (mI) (self_j (mI q0_) (mI q1_)) (self q0_ q1_)) {x2 : Int32} {x2_j : Int} (t_x2 : mI x2 = x2_j) {x3 : Int32} {x3_j : Int} (t_x3 : mI x3 = x3_j) : tl (mI) (iM_all_b44_F N_j a1_j v_acts_j v_as_j v_cuts_j self_j x2_j x3_j) (pM_all_b44_F N a1 v_acts v_as v_cuts self x2 x3) := by
  subst t_N
  subst t_a1
  subst t_v_acts
  subst t_v_as
  subst t_v_cuts
  subst t_x2
  subst t_x3
  unfold iM_all_b44_F pM_all_b44_F
  refine tl_ite (jc_le jlitI_10 (Eq.refl (mI x3))) ?_ ?_
  · exact (tl_some (Eq.refl (mI x2)))
  · refine tl_bd1 (t_pM_isThere (Eq.refl (mI x3)) (Eq.refl (mA v_cuts))) (fun rc2 => ?_)
    refine tl_ite (jc_eq (Eq.refl (mI rc2)) jlitI_0) ?_ ?_
    · refine tl_g (fun h1 => ?_)
      exact (tl_e2 (Eq.refl (mI x2)) (ja_add (Eq.refl (mI x3)) jlitI_1 h1) (t_self _ _))
    · refine tl_g (fun h2 => ?_)
      refine tl_g (fun h3 => ?_)
      exact (tl_e2 (ja_add (Eq.refl (mI x2)) jlitI_1 h2) (ja_add (Eq.refl (mI x3)) jlitI_1 h3) (t_self _ _))
theorem t_pM_all_b44 {N N_j : Nat} (t_N : N = N_j) {a1 : Int32} {a1_j : Int} (t_a1 : mI a1 = a1_j) {v_acts : Int32} {v_acts_j : Int} (t_v_acts : mI v_acts = v_acts_j) {v_as : Int32} {v_as_j : Int} (t_v_as : mI v_as = v_as_j) {v_cuts : (Nat → Int32)} {v_cuts_j : (Nat → Int)} (t_v_cuts : mA v_cuts = v_cuts_j) {n n_j : Nat} (t_n : n = n_j) {w0_ : Int32} {w0__j : Int} (t_w0_ : mI w0_ = w0__j) {w1_ : Int32} {w1__j : Int} (t_w1_ : mI w1_ = w1__j) : tl (mI) (iM_all_b44 N_j a1_j v_acts_j v_as_j v_cuts_j n_j w0__j w1__j) (pM_all_b44 N a1 v_acts v_as v_cuts n w0_ w1_) := by
  subst t_N
  subst t_a1
  subst t_v_acts
  subst t_v_as
  subst t_v_cuts
  subst t_n
  subst t_w0_
  subst t_w1_
  exact tl_zlp2 (fun s2 s hs w0_ w1_ => t_pM_all_b44_F (Eq.refl N) (Eq.refl (mI a1)) (Eq.refl (mI v_acts)) (Eq.refl (mI v_as)) (Eq.refl (mA v_cuts)) hs (Eq.refl (mI w0_)) (Eq.refl (mI w1_))) n w0_ w1_
theorem t_pM_all_b71_F {N N_j : Nat} (t_N : N = N_j) {a1 : Int32} {a1_j : Int} (t_a1 : mI a1 = a1_j) {v_acts : Int32} {v_acts_j : Int} (t_v_acts : mI v_acts = v_acts_j) {v_as : Int32} {v_as_j : Int} (t_v_as : mI v_as = v_as_j) {v_cuts : (Nat → Int32)} {v_cuts_j : (Nat → Int)} (t_v_cuts : mA v_cuts = v_cuts_j) {self : Int32 → Int32 → Option R_pM_all} {self_j : Int → Int → Option Int} (t_self : ∀ (q0_ : Int32) (q1_ : Int32), tl (mI) (self_j (mI q0_) (mI q1_)) (self q0_ q1_)) {x2 : Int32} {x2_j : Int} (t_x2 : mI x2 = x2_j) {x3 : Int32} {x3_j : Int} (t_x3 : mI x3 = x3_j) : tl (mI) (iM_all_b71_F N_j a1_j v_acts_j v_as_j v_cuts_j self_j x2_j x3_j) (pM_all_b71_F N a1 v_acts v_as v_cuts self x2 x3) := by
  subst t_N
  subst t_a1
  subst t_v_acts
  subst t_v_as
  subst t_v_cuts
  subst t_x2
  subst t_x3
  unfold iM_all_b71_F pM_all_b71_F
  refine tl_ite (jc_le jlitI_10 (Eq.refl (mI x3))) ?_ ?_
  · exact (tl_some (Eq.refl (mI x2)))
  · refine tl_g (fun h1 => ?_)
    refine tl_bd1 (t_pM_isThere (ja_add jlitI_10 (Eq.refl (mI x3)) h1) (Eq.refl (mA v_cuts))) (fun rc3 => ?_)
    refine tl_ite (jc_eq (Eq.refl (mI rc3)) jlitI_0) ?_ ?_
    · refine tl_g (fun h2 => ?_)
      exact (tl_e2 (Eq.refl (mI x2)) (ja_add (Eq.refl (mI x3)) jlitI_1 h2) (t_self _ _))
    · refine tl_g (fun h3 => ?_)
      refine tl_g (fun h4 => ?_)
      exact (tl_e2 (ja_add (Eq.refl (mI x2)) jlitI_1 h3) (ja_add (Eq.refl (mI x3)) jlitI_1 h4) (t_self _ _))
theorem t_pM_all_b71 {N N_j : Nat} (t_N : N = N_j) {a1 : Int32} {a1_j : Int} (t_a1 : mI a1 = a1_j) {v_acts : Int32} {v_acts_j : Int} (t_v_acts : mI v_acts = v_acts_j) {v_as : Int32} {v_as_j : Int} (t_v_as : mI v_as = v_as_j) {v_cuts : (Nat → Int32)} {v_cuts_j : (Nat → Int)} (t_v_cuts : mA v_cuts = v_cuts_j) {n n_j : Nat} (t_n : n = n_j) {w0_ : Int32} {w0__j : Int} (t_w0_ : mI w0_ = w0__j) {w1_ : Int32} {w1__j : Int} (t_w1_ : mI w1_ = w1__j) : tl (mI) (iM_all_b71 N_j a1_j v_acts_j v_as_j v_cuts_j n_j w0__j w1__j) (pM_all_b71 N a1 v_acts v_as v_cuts n w0_ w1_) := by
  subst t_N
  subst t_a1
  subst t_v_acts
  subst t_v_as
  subst t_v_cuts
  subst t_n
  subst t_w0_
  subst t_w1_
  exact tl_zlp2 (fun s2 s hs w0_ w1_ => t_pM_all_b71_F (Eq.refl N) (Eq.refl (mI a1)) (Eq.refl (mI v_acts)) (Eq.refl (mI v_as)) (Eq.refl (mA v_cuts)) hs (Eq.refl (mI w0_)) (Eq.refl (mI w1_))) n w0_ w1_
theorem t_pM_all {N N_j : Nat} (t_N : N = N_j) {a1 : Int32} {a1_j : Int} (t_a1 : mI a1 = a1_j) {v_acts : Int32} {v_acts_j : Int} (t_v_acts : mI v_acts = v_acts_j) {v_as : Int32} {v_as_j : Int} (t_v_as : mI v_as = v_as_j) {v_cuts : (Nat → Int32)} {v_cuts_j : (Nat → Int)} (t_v_cuts : mA v_cuts = v_cuts_j) : tl (mI) (iM_all N_j a1_j v_acts_j v_as_j v_cuts_j) (pM_all N a1 v_acts v_as v_cuts) := by
  subst t_N
  subst t_a1
  subst t_v_acts
  subst t_v_as
  subst t_v_cuts
  unfold iM_all pM_all
  refine tl_ite (jc_eq (Eq.refl (mI a1)) jlitI_0) ?_ ?_
  · exact (tl_some (Eq.refl (mI v_acts)))
  · refine tl_ite (jc_eq (Eq.refl (mI a1)) jlitI_1) ?_ ?_
    · refine tl_bd1 (t_pM_asNow (Eq.refl (mI v_acts)) (Eq.refl (mI v_as))) (fun rc1 => ?_)
      exact (tl_some (Eq.refl (mI rc1)))
    · refine tl_ite (jc_eq (Eq.refl (mI a1)) jlitI_2) ?_ ?_
      · exact (t_pM_all_b44 (Eq.refl N) (Eq.refl (mI a1)) (Eq.refl (mI v_acts)) (Eq.refl (mI v_as)) (Eq.refl (mA v_cuts)) (Eq.refl N) jlitI_0 jlitI_0)
      · refine tl_ite (jc_eq (Eq.refl (mI a1)) jlitI_3) ?_ ?_
        · exact (t_pM_all_b71 (Eq.refl N) (Eq.refl (mI a1)) (Eq.refl (mI v_acts)) (Eq.refl (mI v_as)) (Eq.refl (mA v_cuts)) (Eq.refl N) jlitI_0 jlitI_0)
        · exact (tl_some jlitI_m1)
