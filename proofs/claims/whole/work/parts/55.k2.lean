set_option maxHeartbeats 4000000
set_option maxRecDepth 100000
theorem t_pReader_hasRoom {v_length : Int32} {v_length_j : Int} (t_v_length : mI v_length = v_length_j) : tl (mI) (iReader_hasRoom v_length_j) (pReader_hasRoom v_length) := by
  subst t_v_length
  unfold iReader_hasRoom pReader_hasRoom
  refine tl_g (fun h1 => ?_)
  refine tl_ite (jc_lt jlitI_600 (ja_add (Eq.refl (mI v_length)) jlitI_20 h1)) ?_ ?_
  · exact (tl_some jlitI_0)
  · exact (tl_some jlitI_1)
theorem t_pReader_append_b3_F {N N_j : Nat} (t_N : N = N_j) {a1 : Int32} {a1_j : Int} (t_a1 : mI a1 = a1_j) {k50 : Int32 → (Nat → Int32) → Option R_pReader_append} {k50_j : Int → (Nat → Int) → Option R_iReader_append} (t_k50 : ∀ (q0_ : Int32) (q1_ : (Nat → Int32)), tl (mP mI (mP mI mA)) (k50_j (mI q0_) (mA q1_)) (k50 q0_ q1_)) {self : Int32 → Int32 → (Nat → Int32) → Option R_pReader_append} {self_j : Int → Int → (Nat → Int) → Option R_iReader_append} (t_self : ∀ (q0_ : Int32) (q1_ : Int32) (q2_ : (Nat → Int32)), tl (mP mI (mP mI mA)) (self_j (mI q0_) (mI q1_) (mA q2_)) (self q0_ q1_ q2_)) {x2 : Int32} {x2_j : Int} (t_x2 : mI x2 = x2_j) {v_length : Int32} {v_length_j : Int} (t_v_length : mI v_length = v_length_j) {v_tape : (Nat → Int32)} {v_tape_j : (Nat → Int)} (t_v_tape : mA v_tape = v_tape_j) : tl (mP mI (mP mI mA)) (iReader_append_b3_F N_j a1_j k50_j self_j x2_j v_length_j v_tape_j) (pReader_append_b3_F N a1 k50 self x2 v_length v_tape) := by
  subst t_N
  subst t_a1
  subst t_x2
  subst t_v_length
  subst t_v_tape
  unfold iReader_append_b3_F pReader_append_b3_F
  refine tl_ite (jc_lt (Eq.refl (mI x2)) jlitI_0) ?_ ?_
  · exact (tl_e2 (Eq.refl (mI v_length)) (Eq.refl (mA v_tape)) (t_k50 _ _))
  · refine tl_ite (jc_le jlitI_600 (Eq.refl (mI v_length))) ?_ ?_
    · exact (tl_e2 (Eq.refl (mI v_length)) (Eq.refl (mA v_tape)) (t_k50 _ _))
    · refine tl_gd (jg_ib (Eq.refl (mI v_length))) (fun _ => ?_)
      refine tl_g (fun h1 => ?_)
      refine tl_g (fun h2 => ?_)
      exact (tl_e3 (ja_add (Eq.refl (mI x2)) jlitI_m8 h1) (ja_add (Eq.refl (mI v_length)) jlitI_1 h2) (jupA (Eq.refl (mA v_tape)) (jx (Eq.refl (mI v_length))) (ja_n16 (ja_and (ja_ush (Eq.refl (mI a1)) (Eq.refl (mI x2))) jlitI_255))) (t_self _ _ _))
theorem t_pReader_append_b3 {N N_j : Nat} (t_N : N = N_j) {a1 : Int32} {a1_j : Int} (t_a1 : mI a1 = a1_j) {k50 : Int32 → (Nat → Int32) → Option R_pReader_append} {k50_j : Int → (Nat → Int) → Option R_iReader_append} (t_k50 : ∀ (q0_ : Int32) (q1_ : (Nat → Int32)), tl (mP mI (mP mI mA)) (k50_j (mI q0_) (mA q1_)) (k50 q0_ q1_)) {n n_j : Nat} (t_n : n = n_j) {w0_ : Int32} {w0__j : Int} (t_w0_ : mI w0_ = w0__j) {w1_ : Int32} {w1__j : Int} (t_w1_ : mI w1_ = w1__j) {w2_ : (Nat → Int32)} {w2__j : (Nat → Int)} (t_w2_ : mA w2_ = w2__j) : tl (mP mI (mP mI mA)) (iReader_append_b3 N_j a1_j k50_j n_j w0__j w1__j w2__j) (pReader_append_b3 N a1 k50 n w0_ w1_ w2_) := by
  subst t_N
  subst t_a1
  subst t_n
  subst t_w0_
  subst t_w1_
  subst t_w2_
  exact tl_zlp3 (fun s2 s hs w0_ w1_ w2_ => t_pReader_append_b3_F (Eq.refl N) (Eq.refl (mI a1)) t_k50 hs (Eq.refl (mI w0_)) (Eq.refl (mI w1_)) (Eq.refl (mA w2_))) n w0_ w1_ w2_
theorem t_pReader_append_b50 {N N_j : Nat} (t_N : N = N_j) {a1 : Int32} {a1_j : Int} (t_a1 : mI a1 = a1_j) {v_length : Int32} {v_length_j : Int} (t_v_length : mI v_length = v_length_j) {v_tape : (Nat → Int32)} {v_tape_j : (Nat → Int)} (t_v_tape : mA v_tape = v_tape_j) : tl (mP mI (mP mI mA)) (iReader_append_b50 N_j a1_j v_length_j v_tape_j) (pReader_append_b50 N a1 v_length v_tape) := by
  subst t_N
  subst t_a1
  subst t_v_length
  subst t_v_tape
  unfold iReader_append_b50 pReader_append_b50
  exact (tl_some (jp2 (Eq.refl (mI v_length)) (jp2 (Eq.refl (mI v_length)) (Eq.refl (mA v_tape)))))
theorem t_pReader_append {N N_j : Nat} (t_N : N = N_j) {a1 : Int32} {a1_j : Int} (t_a1 : mI a1 = a1_j) {v_length : Int32} {v_length_j : Int} (t_v_length : mI v_length = v_length_j) {v_tape : (Nat → Int32)} {v_tape_j : (Nat → Int)} (t_v_tape : mA v_tape = v_tape_j) : tl (mP mI (mP mI mA)) (iReader_append N_j a1_j v_length_j v_tape_j) (pReader_append N a1 v_length v_tape) := by
  subst t_N
  subst t_a1
  subst t_v_length
  subst t_v_tape
  unfold iReader_append pReader_append
  exact (t_pReader_append_b3 (Eq.refl N) (Eq.refl (mI a1)) (fun e2_ e3_ => by exact (t_pReader_append_b50 (Eq.refl N) (Eq.refl (mI a1)) (Eq.refl (mI e2_)) (Eq.refl (mA e3_)))) (Eq.refl N) jlitI_24 (Eq.refl (mI v_length)) (Eq.refl (mA v_tape)))
theorem t_pReader_shorten {a1 : Int32} {a1_j : Int} (t_a1 : mI a1 = a1_j) {v_length : Int32} {v_length_j : Int} (t_v_length : mI v_length = v_length_j) : tl (mP mI mI) (iReader_shorten a1_j v_length_j) (pReader_shorten a1 v_length) := by
  subst t_a1
  subst t_v_length
  unfold iReader_shorten pReader_shorten
  refine tl_ite (jc_lt (Eq.refl (mI a1)) jlitI_0) ?_ ?_
  · exact (tl_some (jp2 jlitI_0 (Eq.refl (mI v_length))))
  · refine tl_ite (jc_le (Eq.refl (mI a1)) (Eq.refl (mI v_length))) ?_ ?_
    · exact (tl_some (jp2 jlitI_1 (Eq.refl (mI a1))))
    · exact (tl_some (jp2 jlitI_0 (Eq.refl (mI v_length))))
theorem t_pReader_wipe {v_length : Int32} {v_length_j : Int} (t_v_length : mI v_length = v_length_j) : tl (mI) (iReader_wipe v_length_j) (pReader_wipe v_length) := by
  subst t_v_length
  unfold iReader_wipe pReader_wipe
  exact (tl_some jlitI_0)
theorem t_pReader_next_b66 {N N_j : Nat} (t_N : N = N_j) {v_length : Int32} {v_length_j : Int} (t_v_length : mI v_length = v_length_j) {v_tape : (Nat → Int32)} {v_tape_j : (Nat → Int)} (t_v_tape : mA v_tape = v_tape_j) {self : Int32 → Option R_pReader_next} {self_j : Int → Option R_iReader_next} (t_self : ∀ (q0_ : Int32), tl (mP mI (mP mI mI)) (self_j (mI q0_)) (self q0_)) {k79 : Int32 → Option R_pReader_next} {k79_j : Int → Option R_iReader_next} (t_k79 : ∀ (q0_ : Int32), tl (mP mI (mP mI mI)) (k79_j (mI q0_)) (k79 q0_)) {x1 : Int32} {x1_j : Int} (t_x1 : mI x1 = x1_j) {x2 : Int32} {x2_j : Int} (t_x2 : mI x2 = x2_j) {v_at : Int32} {v_at_j : Int} (t_v_at : mI v_at = v_at_j) {v_kind : Int32} {v_kind_j : Int} (t_v_kind : mI v_kind = v_kind_j) {v_stop : Int32} {v_stop_j : Int} (t_v_stop : mI v_stop = v_stop_j) : tl (mP mI (mP mI mI)) (iReader_next_b66 N_j v_length_j v_tape_j self_j k79_j x1_j x2_j v_at_j v_kind_j v_stop_j) (pReader_next_b66 N v_length v_tape self k79 x1 x2 v_at v_kind v_stop) := by
  subst t_N
  subst t_v_length
  subst t_v_tape
  subst t_x1
  subst t_x2
  subst t_v_at
  subst t_v_kind
  subst t_v_stop
  unfold iReader_next_b66 pReader_next_b66
  refine tl_g (fun h1 => ?_)
  exact (tl_e1 (ja_add (Eq.refl (mI v_stop)) jlitI_1 h1) (t_self _))
theorem t_pReader_next_b27_F {N N_j : Nat} (t_N : N = N_j) {v_length : Int32} {v_length_j : Int} (t_v_length : mI v_length = v_length_j) {v_tape : (Nat → Int32)} {v_tape_j : (Nat → Int)} (t_v_tape : mA v_tape = v_tape_j) {x1 : Int32} {x1_j : Int} (t_x1 : mI x1 = x1_j) {x2 : Int32} {x2_j : Int} (t_x2 : mI x2 = x2_j) {v_at : Int32} {v_at_j : Int} (t_v_at : mI v_at = v_at_j) {v_kind : Int32} {v_kind_j : Int} (t_v_kind : mI v_kind = v_kind_j) {k79 : Int32 → Option R_pReader_next} {k79_j : Int → Option R_iReader_next} (t_k79 : ∀ (q0_ : Int32), tl (mP mI (mP mI mI)) (k79_j (mI q0_)) (k79 q0_)) {self : Int32 → Option R_pReader_next} {self_j : Int → Option R_iReader_next} (t_self : ∀ (q0_ : Int32), tl (mP mI (mP mI mI)) (self_j (mI q0_)) (self q0_)) {v_stop : Int32} {v_stop_j : Int} (t_v_stop : mI v_stop = v_stop_j) : tl (mP mI (mP mI mI)) (iReader_next_b27_F N_j v_length_j v_tape_j x1_j x2_j v_at_j v_kind_j k79_j self_j v_stop_j) (pReader_next_b27_F N v_length v_tape x1 x2 v_at v_kind k79 self v_stop) := by
  subst t_N
  subst t_v_length
  subst t_v_tape
  subst t_x1
  subst t_x2
  subst t_v_at
  subst t_v_kind
  subst t_v_stop
  unfold iReader_next_b27_F pReader_next_b27_F
  refine tl_ite (jc_le (Eq.refl (mI v_length)) (Eq.refl (mI v_stop))) ?_ ?_
  · exact (tl_e1 (Eq.refl (mI v_stop)) (t_k79 _))
  · refine tl_gd (jg_ib (Eq.refl (mI v_stop))) (fun _ => ?_)
    refine tl_ite (jc_eq (jrd (Eq.refl (mA v_tape)) (jx (Eq.refl (mI v_stop)))) jlitI_32) ?_ ?_
    · exact (t_pReader_next_b66 (Eq.refl N) (Eq.refl (mI v_length)) (Eq.refl (mA v_tape)) t_self t_k79 (Eq.refl (mI x1)) (Eq.refl (mI x2)) (Eq.refl (mI v_at)) (Eq.refl (mI v_kind)) (Eq.refl (mI v_stop)))
    · refine tl_ite (jc_eq (jrd (Eq.refl (mA v_tape)) (jx (Eq.refl (mI v_stop)))) jlitI_10) ?_ ?_
      · exact (t_pReader_next_b66 (Eq.refl N) (Eq.refl (mI v_length)) (Eq.refl (mA v_tape)) t_self t_k79 (Eq.refl (mI x1)) (Eq.refl (mI x2)) (Eq.refl (mI v_at)) (Eq.refl (mI v_kind)) (Eq.refl (mI v_stop)))
      · exact (tl_e1 (Eq.refl (mI v_stop)) (t_k79 _))
theorem t_pReader_next_b27 {N N_j : Nat} (t_N : N = N_j) {v_length : Int32} {v_length_j : Int} (t_v_length : mI v_length = v_length_j) {v_tape : (Nat → Int32)} {v_tape_j : (Nat → Int)} (t_v_tape : mA v_tape = v_tape_j) {x1 : Int32} {x1_j : Int} (t_x1 : mI x1 = x1_j) {x2 : Int32} {x2_j : Int} (t_x2 : mI x2 = x2_j) {v_at : Int32} {v_at_j : Int} (t_v_at : mI v_at = v_at_j) {v_kind : Int32} {v_kind_j : Int} (t_v_kind : mI v_kind = v_kind_j) {k79 : Int32 → Option R_pReader_next} {k79_j : Int → Option R_iReader_next} (t_k79 : ∀ (q0_ : Int32), tl (mP mI (mP mI mI)) (k79_j (mI q0_)) (k79 q0_)) {n n_j : Nat} (t_n : n = n_j) {w0_ : Int32} {w0__j : Int} (t_w0_ : mI w0_ = w0__j) : tl (mP mI (mP mI mI)) (iReader_next_b27 N_j v_length_j v_tape_j x1_j x2_j v_at_j v_kind_j k79_j n_j w0__j) (pReader_next_b27 N v_length v_tape x1 x2 v_at v_kind k79 n w0_) := by
  subst t_N
  subst t_v_length
  subst t_v_tape
  subst t_x1
  subst t_x2
  subst t_v_at
  subst t_v_kind
  subst t_n
  subst t_w0_
  exact tl_zlp1 (fun s2 s hs w0_ => t_pReader_next_b27_F (Eq.refl N) (Eq.refl (mI v_length)) (Eq.refl (mA v_tape)) (Eq.refl (mI x1)) (Eq.refl (mI x2)) (Eq.refl (mI v_at)) (Eq.refl (mI v_kind)) t_k79 hs (Eq.refl (mI w0_))) n w0_
theorem t_pReader_next_b104_F {N N_j : Nat} (t_N : N = N_j) {v_length : Int32} {v_length_j : Int} (t_v_length : mI v_length = v_length_j) {v_tape : (Nat → Int32)} {v_tape_j : (Nat → Int)} (t_v_tape : mA v_tape = v_tape_j) {x1 : Int32} {x1_j : Int} (t_x1 : mI x1 = x1_j) {x2 : Int32} {x2_j : Int} (t_x2 : mI x2 = x2_j) {v_at : Int32} {v_at_j : Int} (t_v_at : mI v_at = v_at_j) {v_kind : Int32} {v_kind_j : Int} (t_v_kind : mI v_kind = v_kind_j) {k156 : Int32 → Option R_pReader_next} {k156_j : Int → Option R_iReader_next} (t_k156 : ∀ (q0_ : Int32), tl (mP mI (mP mI mI)) (k156_j (mI q0_)) (k156 q0_)) {self : Int32 → Option R_pReader_next} {self_j : Int → Option R_iReader_next} (t_self : ∀ (q0_ : Int32), tl (mP mI (mP mI mI)) (self_j (mI q0_)) (self q0_)) {v_stop : Int32} {v_stop_j : Int} (t_v_stop : mI v_stop = v_stop_j) : tl (mP mI (mP mI mI)) (iReader_next_b104_F N_j v_length_j v_tape_j x1_j x2_j v_at_j v_kind_j k156_j self_j v_stop_j) (pReader_next_b104_F N v_length v_tape x1 x2 v_at v_kind k156 self v_stop) := by
  subst t_N
  subst t_v_length
  subst t_v_tape
  subst t_x1
  subst t_x2
  subst t_v_at
  subst t_v_kind
  subst t_v_stop
  unfold iReader_next_b104_F pReader_next_b104_F
  refine tl_ite (jc_le (Eq.refl (mI v_length)) (Eq.refl (mI v_stop))) ?_ ?_
  · exact (tl_e1 (Eq.refl (mI v_stop)) (t_k156 _))
  · refine tl_gd (jg_ib (Eq.refl (mI v_stop))) (fun _ => ?_)
    refine tl_ite (jc_lt (jrd (Eq.refl (mA v_tape)) (jx (Eq.refl (mI v_stop)))) jlitI_97) ?_ ?_
    · exact (tl_e1 (Eq.refl (mI v_stop)) (t_k156 _))
    · refine tl_ite (jc_lt jlitI_122 (jrd (Eq.refl (mA v_tape)) (jx (Eq.refl (mI v_stop))))) ?_ ?_
      · exact (tl_e1 (Eq.refl (mI v_stop)) (t_k156 _))
      · refine tl_g (fun h1 => ?_)
        exact (tl_e1 (ja_add (Eq.refl (mI v_stop)) jlitI_1 h1) (t_self _))
theorem t_pReader_next_b104 {N N_j : Nat} (t_N : N = N_j) {v_length : Int32} {v_length_j : Int} (t_v_length : mI v_length = v_length_j) {v_tape : (Nat → Int32)} {v_tape_j : (Nat → Int)} (t_v_tape : mA v_tape = v_tape_j) {x1 : Int32} {x1_j : Int} (t_x1 : mI x1 = x1_j) {x2 : Int32} {x2_j : Int} (t_x2 : mI x2 = x2_j) {v_at : Int32} {v_at_j : Int} (t_v_at : mI v_at = v_at_j) {v_kind : Int32} {v_kind_j : Int} (t_v_kind : mI v_kind = v_kind_j) {k156 : Int32 → Option R_pReader_next} {k156_j : Int → Option R_iReader_next} (t_k156 : ∀ (q0_ : Int32), tl (mP mI (mP mI mI)) (k156_j (mI q0_)) (k156 q0_)) {n n_j : Nat} (t_n : n = n_j) {w0_ : Int32} {w0__j : Int} (t_w0_ : mI w0_ = w0__j) : tl (mP mI (mP mI mI)) (iReader_next_b104 N_j v_length_j v_tape_j x1_j x2_j v_at_j v_kind_j k156_j n_j w0__j) (pReader_next_b104 N v_length v_tape x1 x2 v_at v_kind k156 n w0_) := by
  subst t_N
  subst t_v_length
  subst t_v_tape
  subst t_x1
  subst t_x2
  subst t_v_at
  subst t_v_kind
  subst t_n
  subst t_w0_
  exact tl_zlp1 (fun s2 s hs w0_ => t_pReader_next_b104_F (Eq.refl N) (Eq.refl (mI v_length)) (Eq.refl (mA v_tape)) (Eq.refl (mI x1)) (Eq.refl (mI x2)) (Eq.refl (mI v_at)) (Eq.refl (mI v_kind)) t_k156 hs (Eq.refl (mI w0_))) n w0_
theorem t_pReader_next_b172_F {N N_j : Nat} (t_N : N = N_j) {v_length : Int32} {v_length_j : Int} (t_v_length : mI v_length = v_length_j) {v_tape : (Nat → Int32)} {v_tape_j : (Nat → Int)} (t_v_tape : mA v_tape = v_tape_j) {x1 : Int32} {x1_j : Int} (t_x1 : mI x1 = x1_j) {x2 : Int32} {x2_j : Int} (t_x2 : mI x2 = x2_j) {v_at : Int32} {v_at_j : Int} (t_v_at : mI v_at = v_at_j) {v_kind : Int32} {v_kind_j : Int} (t_v_kind : mI v_kind = v_kind_j) {k224 : Int32 → Option R_pReader_next} {k224_j : Int → Option R_iReader_next} (t_k224 : ∀ (q0_ : Int32), tl (mP mI (mP mI mI)) (k224_j (mI q0_)) (k224 q0_)) {self : Int32 → Option R_pReader_next} {self_j : Int → Option R_iReader_next} (t_self : ∀ (q0_ : Int32), tl (mP mI (mP mI mI)) (self_j (mI q0_)) (self q0_)) {v_stop : Int32} {v_stop_j : Int} (t_v_stop : mI v_stop = v_stop_j) : tl (mP mI (mP mI mI)) (iReader_next_b172_F N_j v_length_j v_tape_j x1_j x2_j v_at_j v_kind_j k224_j self_j v_stop_j) (pReader_next_b172_F N v_length v_tape x1 x2 v_at v_kind k224 self v_stop) := by
  subst t_N
  subst t_v_length
  subst t_v_tape
  subst t_x1
  subst t_x2
  subst t_v_at
  subst t_v_kind
  subst t_v_stop
  unfold iReader_next_b172_F pReader_next_b172_F
  refine tl_ite (jc_le (Eq.refl (mI v_length)) (Eq.refl (mI v_stop))) ?_ ?_
  · exact (tl_e1 (Eq.refl (mI v_stop)) (t_k224 _))
  · refine tl_gd (jg_ib (Eq.refl (mI v_stop))) (fun _ => ?_)
    refine tl_ite (jc_lt (jrd (Eq.refl (mA v_tape)) (jx (Eq.refl (mI v_stop)))) jlitI_48) ?_ ?_
    · exact (tl_e1 (Eq.refl (mI v_stop)) (t_k224 _))
    · refine tl_ite (jc_lt jlitI_57 (jrd (Eq.refl (mA v_tape)) (jx (Eq.refl (mI v_stop))))) ?_ ?_
      · exact (tl_e1 (Eq.refl (mI v_stop)) (t_k224 _))
      · refine tl_g (fun h1 => ?_)
        exact (tl_e1 (ja_add (Eq.refl (mI v_stop)) jlitI_1 h1) (t_self _))
theorem t_pReader_next_b172 {N N_j : Nat} (t_N : N = N_j) {v_length : Int32} {v_length_j : Int} (t_v_length : mI v_length = v_length_j) {v_tape : (Nat → Int32)} {v_tape_j : (Nat → Int)} (t_v_tape : mA v_tape = v_tape_j) {x1 : Int32} {x1_j : Int} (t_x1 : mI x1 = x1_j) {x2 : Int32} {x2_j : Int} (t_x2 : mI x2 = x2_j) {v_at : Int32} {v_at_j : Int} (t_v_at : mI v_at = v_at_j) {v_kind : Int32} {v_kind_j : Int} (t_v_kind : mI v_kind = v_kind_j) {k224 : Int32 → Option R_pReader_next} {k224_j : Int → Option R_iReader_next} (t_k224 : ∀ (q0_ : Int32), tl (mP mI (mP mI mI)) (k224_j (mI q0_)) (k224 q0_)) {n n_j : Nat} (t_n : n = n_j) {w0_ : Int32} {w0__j : Int} (t_w0_ : mI w0_ = w0__j) : tl (mP mI (mP mI mI)) (iReader_next_b172 N_j v_length_j v_tape_j x1_j x2_j v_at_j v_kind_j k224_j n_j w0__j) (pReader_next_b172 N v_length v_tape x1 x2 v_at v_kind k224 n w0_) := by
  subst t_N
  subst t_v_length
  subst t_v_tape
  subst t_x1
  subst t_x2
  subst t_v_at
  subst t_v_kind
  subst t_n
  subst t_w0_
  exact tl_zlp1 (fun s2 s hs w0_ => t_pReader_next_b172_F (Eq.refl N) (Eq.refl (mI v_length)) (Eq.refl (mA v_tape)) (Eq.refl (mI x1)) (Eq.refl (mI x2)) (Eq.refl (mI v_at)) (Eq.refl (mI v_kind)) t_k224 hs (Eq.refl (mI w0_))) n w0_
theorem t_pReader_next_b229 {N N_j : Nat} (t_N : N = N_j) {v_length : Int32} {v_length_j : Int} (t_v_length : mI v_length = v_length_j) {v_tape : (Nat → Int32)} {v_tape_j : (Nat → Int)} (t_v_tape : mA v_tape = v_tape_j) {x1 : Int32} {x1_j : Int} (t_x1 : mI x1 = x1_j) {x2 : Int32} {x2_j : Int} (t_x2 : mI x2 = x2_j) {v_at : Int32} {v_at_j : Int} (t_v_at : mI v_at = v_at_j) {v_kind : Int32} {v_kind_j : Int} (t_v_kind : mI v_kind = v_kind_j) {v_stop : Int32} {v_stop_j : Int} (t_v_stop : mI v_stop = v_stop_j) : tl (mP mI (mP mI mI)) (iReader_next_b229 N_j v_length_j v_tape_j x1_j x2_j v_at_j v_kind_j v_stop_j) (pReader_next_b229 N v_length v_tape x1 x2 v_at v_kind v_stop) := by
  subst t_N
  subst t_v_length
  subst t_v_tape
  subst t_x1
  subst t_x2
  subst t_v_at
  subst t_v_kind
  subst t_v_stop
  unfold iReader_next_b229 pReader_next_b229
  refine tl_ite (jc_eq (Eq.refl (mI v_stop)) (Eq.refl (mI v_at))) ?_ ?_
  · refine tl_g (fun h1 => ?_)
    exact (tl_some (jp2 (Eq.refl (mI v_at)) (jp2 jlitI_3 (ja_add (Eq.refl (mI v_stop)) jlitI_1 h1))))
  · refine tl_ite (jc_eq (Eq.refl (mI x2)) jlitI_0) ?_ ?_
    · exact (tl_some (jp2 (Eq.refl (mI v_at)) (jp2 (Eq.refl (mI v_kind)) (Eq.refl (mI v_stop)))))
    · refine tl_ite (jc_eq (Eq.refl (mI v_at)) (Eq.refl (mI x1))) ?_ ?_
      · exact (tl_some (jp2 (Eq.refl (mI v_at)) (jp2 jlitI_4 (Eq.refl (mI v_stop)))))
      · exact (tl_some (jp2 (Eq.refl (mI v_at)) (jp2 (Eq.refl (mI v_kind)) (Eq.refl (mI v_stop)))))
theorem t_pReader_next_b224 {N N_j : Nat} (t_N : N = N_j) {v_length : Int32} {v_length_j : Int} (t_v_length : mI v_length = v_length_j) {v_tape : (Nat → Int32)} {v_tape_j : (Nat → Int)} (t_v_tape : mA v_tape = v_tape_j) {x1 : Int32} {x1_j : Int} (t_x1 : mI x1 = x1_j) {x2 : Int32} {x2_j : Int} (t_x2 : mI x2 = x2_j) {v_at : Int32} {v_at_j : Int} (t_v_at : mI v_at = v_at_j) {v_kind : Int32} {v_kind_j : Int} (t_v_kind : mI v_kind = v_kind_j) {v_stop : Int32} {v_stop_j : Int} (t_v_stop : mI v_stop = v_stop_j) : tl (mP mI (mP mI mI)) (iReader_next_b224 N_j v_length_j v_tape_j x1_j x2_j v_at_j v_kind_j v_stop_j) (pReader_next_b224 N v_length v_tape x1 x2 v_at v_kind v_stop) := by
  subst t_N
  subst t_v_length
  subst t_v_tape
  subst t_x1
  subst t_x2
  subst t_v_at
  subst t_v_kind
  subst t_v_stop
  unfold iReader_next_b224 pReader_next_b224
  exact (t_pReader_next_b229 (Eq.refl N) (Eq.refl (mI v_length)) (Eq.refl (mA v_tape)) (Eq.refl (mI x1)) (Eq.refl (mI x2)) (Eq.refl (mI v_at)) jlitI_2 (Eq.refl (mI v_stop)))
theorem t_pReader_next_b156 {N N_j : Nat} (t_N : N = N_j) {v_length : Int32} {v_length_j : Int} (t_v_length : mI v_length = v_length_j) {v_tape : (Nat → Int32)} {v_tape_j : (Nat → Int)} (t_v_tape : mA v_tape = v_tape_j) {x1 : Int32} {x1_j : Int} (t_x1 : mI x1 = x1_j) {x2 : Int32} {x2_j : Int} (t_x2 : mI x2 = x2_j) {v_at : Int32} {v_at_j : Int} (t_v_at : mI v_at = v_at_j) {v_kind : Int32} {v_kind_j : Int} (t_v_kind : mI v_kind = v_kind_j) {v_stop : Int32} {v_stop_j : Int} (t_v_stop : mI v_stop = v_stop_j) : tl (mP mI (mP mI mI)) (iReader_next_b156 N_j v_length_j v_tape_j x1_j x2_j v_at_j v_kind_j v_stop_j) (pReader_next_b156 N v_length v_tape x1 x2 v_at v_kind v_stop) := by
  subst t_N
  subst t_v_length
  subst t_v_tape
  subst t_x1
  subst t_x2
  subst t_v_at
  subst t_v_kind
  subst t_v_stop
  unfold iReader_next_b156 pReader_next_b156
  refine tl_ite (jc_eq (Eq.refl (mI v_stop)) (Eq.refl (mI v_at))) ?_ ?_
  · exact (t_pReader_next_b172 (Eq.refl N) (Eq.refl (mI v_length)) (Eq.refl (mA v_tape)) (Eq.refl (mI x1)) (Eq.refl (mI x2)) (Eq.refl (mI v_at)) jlitI_1 (fun e7_ => by exact (t_pReader_next_b224 (Eq.refl N) (Eq.refl (mI v_length)) (Eq.refl (mA v_tape)) (Eq.refl (mI x1)) (Eq.refl (mI x2)) (Eq.refl (mI v_at)) jlitI_1 (Eq.refl (mI e7_)))) (Eq.refl N) (Eq.refl (mI v_stop)))
  · exact (t_pReader_next_b229 (Eq.refl N) (Eq.refl (mI v_length)) (Eq.refl (mA v_tape)) (Eq.refl (mI x1)) (Eq.refl (mI x2)) (Eq.refl (mI v_at)) jlitI_1 (Eq.refl (mI v_stop)))
theorem t_pReader_next_b79 {N N_j : Nat} (t_N : N = N_j) {v_length : Int32} {v_length_j : Int} (t_v_length : mI v_length = v_length_j) {v_tape : (Nat → Int32)} {v_tape_j : (Nat → Int)} (t_v_tape : mA v_tape = v_tape_j) {x1 : Int32} {x1_j : Int} (t_x1 : mI x1 = x1_j) {x2 : Int32} {x2_j : Int} (t_x2 : mI x2 = x2_j) {v_at : Int32} {v_at_j : Int} (t_v_at : mI v_at = v_at_j) {v_kind : Int32} {v_kind_j : Int} (t_v_kind : mI v_kind = v_kind_j) {v_stop : Int32} {v_stop_j : Int} (t_v_stop : mI v_stop = v_stop_j) : tl (mP mI (mP mI mI)) (iReader_next_b79 N_j v_length_j v_tape_j x1_j x2_j v_at_j v_kind_j v_stop_j) (pReader_next_b79 N v_length v_tape x1 x2 v_at v_kind v_stop) := by
  subst t_N
  subst t_v_length
  subst t_v_tape
  subst t_x1
  subst t_x2
  subst t_v_at
  subst t_v_kind
  subst t_v_stop
  unfold iReader_next_b79 pReader_next_b79
  refine tl_ite (jc_lt (Eq.refl (mI v_stop)) (Eq.refl (mI v_length))) ?_ ?_
  · exact (t_pReader_next_b104 (Eq.refl N) (Eq.refl (mI v_length)) (Eq.refl (mA v_tape)) (Eq.refl (mI x1)) (Eq.refl (mI x2)) (Eq.refl (mI v_stop)) (Eq.refl (mI v_kind)) (fun e7_ => by exact (t_pReader_next_b156 (Eq.refl N) (Eq.refl (mI v_length)) (Eq.refl (mA v_tape)) (Eq.refl (mI x1)) (Eq.refl (mI x2)) (Eq.refl (mI v_stop)) (Eq.refl (mI v_kind)) (Eq.refl (mI e7_)))) (Eq.refl N) (Eq.refl (mI v_stop)))
  · exact (tl_some (jp2 (Eq.refl (mI v_stop)) (jp2 jlitI_0 (Eq.refl (mI v_stop)))))
theorem t_pReader_next {N N_j : Nat} (t_N : N = N_j) {v_at : Int32} {v_at_j : Int} (t_v_at : mI v_at = v_at_j) {v_kind : Int32} {v_kind_j : Int} (t_v_kind : mI v_kind = v_kind_j) {v_length : Int32} {v_length_j : Int} (t_v_length : mI v_length = v_length_j) {v_stop : Int32} {v_stop_j : Int} (t_v_stop : mI v_stop = v_stop_j) {v_tape : (Nat → Int32)} {v_tape_j : (Nat → Int)} (t_v_tape : mA v_tape = v_tape_j) : tl (mP mI (mP mI mI)) (iReader_next N_j v_at_j v_kind_j v_length_j v_stop_j v_tape_j) (pReader_next N v_at v_kind v_length v_stop v_tape) := by
  subst t_N
  subst t_v_at
  subst t_v_kind
  subst t_v_length
  subst t_v_stop
  subst t_v_tape
  unfold iReader_next pReader_next
  refine tl_ite (jc_eq (Eq.refl (mI v_kind)) jlitI_1) ?_ ?_
  · exact (t_pReader_next_b27 (Eq.refl N) (Eq.refl (mI v_length)) (Eq.refl (mA v_tape)) (Eq.refl (mI v_stop)) jlitI_1 (Eq.refl (mI v_at)) (Eq.refl (mI v_kind)) (fun e7_ => by exact (t_pReader_next_b79 (Eq.refl N) (Eq.refl (mI v_length)) (Eq.refl (mA v_tape)) (Eq.refl (mI v_stop)) jlitI_1 (Eq.refl (mI v_at)) (Eq.refl (mI v_kind)) (Eq.refl (mI e7_)))) (Eq.refl N) (Eq.refl (mI v_stop)))
  · refine tl_ite (jc_eq (Eq.refl (mI v_kind)) jlitI_2) ?_ ?_
    · exact (t_pReader_next_b27 (Eq.refl N) (Eq.refl (mI v_length)) (Eq.refl (mA v_tape)) (Eq.refl (mI v_stop)) jlitI_1 (Eq.refl (mI v_at)) (Eq.refl (mI v_kind)) (fun e7_ => by exact (t_pReader_next_b79 (Eq.refl N) (Eq.refl (mI v_length)) (Eq.refl (mA v_tape)) (Eq.refl (mI v_stop)) jlitI_1 (Eq.refl (mI v_at)) (Eq.refl (mI v_kind)) (Eq.refl (mI e7_)))) (Eq.refl N) (Eq.refl (mI v_stop)))
    · exact (t_pReader_next_b27 (Eq.refl N) (Eq.refl (mI v_length)) (Eq.refl (mA v_tape)) (Eq.refl (mI v_stop)) jlitI_0 (Eq.refl (mI v_at)) (Eq.refl (mI v_kind)) (fun e7_ => by exact (t_pReader_next_b79 (Eq.refl N) (Eq.refl (mI v_length)) (Eq.refl (mA v_tape)) (Eq.refl (mI v_stop)) jlitI_0 (Eq.refl (mI v_at)) (Eq.refl (mI v_kind)) (Eq.refl (mI e7_)))) (Eq.refl N) (Eq.refl (mI v_stop)))
theorem t_pReader_takeWord_b28_F {N N_j : Nat} (t_N : N = N_j) {a1 a1_j : Nat} (t_a1 : a1 = a1_j) {v_length : Int32} {v_length_j : Int} (t_v_length : mI v_length = v_length_j) {v_tape : (Nat → Int32)} {v_tape_j : (Nat → Int)} (t_v_tape : mA v_tape = v_tape_j) {v_at : Int32} {v_at_j : Int} (t_v_at : mI v_at = v_at_j) {v_kind : Int32} {v_kind_j : Int} (t_v_kind : mI v_kind = v_kind_j) {v_stop : Int32} {v_stop_j : Int} (t_v_stop : mI v_stop = v_stop_j) {k63 : Option R_pReader_takeWord} {k63_j : Option R_iReader_takeWord} (t_k63 : tl (mP mI (mP mI (mP mI mI))) (k63_j) (k63)) {self : Int32 → Option R_pReader_takeWord} {self_j : Int → Option R_iReader_takeWord} (t_self : ∀ (q0_ : Int32), tl (mP mI (mP mI (mP mI mI))) (self_j (mI q0_)) (self q0_)) {x2 : Int32} {x2_j : Int} (t_x2 : mI x2 = x2_j) : tl (mP mI (mP mI (mP mI mI))) (iReader_takeWord_b28_F N_j a1_j v_length_j v_tape_j v_at_j v_kind_j v_stop_j k63_j self_j x2_j) (pReader_takeWord_b28_F N a1 v_length v_tape v_at v_kind v_stop k63 self x2) := by
  subst t_N
  subst t_a1
  subst t_v_length
  subst t_v_tape
  subst t_v_at
  subst t_v_kind
  subst t_v_stop
  subst t_x2
  unfold iReader_takeWord_b28_F pReader_takeWord_b28_F
  refine tl_g (fun h1 => ?_)
  refine tl_ite (jc_le (ja_of h1) (Eq.refl (mI x2))) ?_ ?_
  · exact t_k63
  · refine tl_g (fun h2 => ?_)
    refine tl_gd (jg_ib (ja_add (Eq.refl (mI v_at)) (Eq.refl (mI x2)) h2)) (fun _ => ?_)
    refine tl_gd (jg_ib (Eq.refl (mI x2))) (fun _ => ?_)
    refine tl_ite (jc_eq (jrd (Eq.refl (mA v_tape)) (jx (ja_add (Eq.refl (mI v_at)) (Eq.refl (mI x2)) h2))) (jS_ch (jx (Eq.refl (mI x2))))) ?_ ?_
    · refine tl_g (fun h3 => ?_)
      exact (tl_e1 (ja_add (Eq.refl (mI x2)) jlitI_1 h3) (t_self _))
    · exact (tl_some (jp2 jlitI_0 (jp2 (Eq.refl (mI v_at)) (jp2 (Eq.refl (mI v_kind)) (Eq.refl (mI v_stop))))))
theorem t_pReader_takeWord_b28 {N N_j : Nat} (t_N : N = N_j) {a1 a1_j : Nat} (t_a1 : a1 = a1_j) {v_length : Int32} {v_length_j : Int} (t_v_length : mI v_length = v_length_j) {v_tape : (Nat → Int32)} {v_tape_j : (Nat → Int)} (t_v_tape : mA v_tape = v_tape_j) {v_at : Int32} {v_at_j : Int} (t_v_at : mI v_at = v_at_j) {v_kind : Int32} {v_kind_j : Int} (t_v_kind : mI v_kind = v_kind_j) {v_stop : Int32} {v_stop_j : Int} (t_v_stop : mI v_stop = v_stop_j) {k63 : Option R_pReader_takeWord} {k63_j : Option R_iReader_takeWord} (t_k63 : tl (mP mI (mP mI (mP mI mI))) (k63_j) (k63)) {n n_j : Nat} (t_n : n = n_j) {w0_ : Int32} {w0__j : Int} (t_w0_ : mI w0_ = w0__j) : tl (mP mI (mP mI (mP mI mI))) (iReader_takeWord_b28 N_j a1_j v_length_j v_tape_j v_at_j v_kind_j v_stop_j k63_j n_j w0__j) (pReader_takeWord_b28 N a1 v_length v_tape v_at v_kind v_stop k63 n w0_) := by
  subst t_N
  subst t_a1
  subst t_v_length
  subst t_v_tape
  subst t_v_at
  subst t_v_kind
  subst t_v_stop
  subst t_n
  subst t_w0_
  exact tl_zlp1 (fun s2 s hs w0_ => t_pReader_takeWord_b28_F (Eq.refl N) (Eq.refl a1) (Eq.refl (mI v_length)) (Eq.refl (mA v_tape)) (Eq.refl (mI v_at)) (Eq.refl (mI v_kind)) (Eq.refl (mI v_stop)) t_k63 hs (Eq.refl (mI w0_))) n w0_
theorem t_pReader_takeWord_b63 {N N_j : Nat} (t_N : N = N_j) {a1 a1_j : Nat} (t_a1 : a1 = a1_j) {v_length : Int32} {v_length_j : Int} (t_v_length : mI v_length = v_length_j) {v_tape : (Nat → Int32)} {v_tape_j : (Nat → Int)} (t_v_tape : mA v_tape = v_tape_j) {v_at : Int32} {v_at_j : Int} (t_v_at : mI v_at = v_at_j) {v_kind : Int32} {v_kind_j : Int} (t_v_kind : mI v_kind = v_kind_j) {v_stop : Int32} {v_stop_j : Int} (t_v_stop : mI v_stop = v_stop_j) : tl (mP mI (mP mI (mP mI mI))) (iReader_takeWord_b63 N_j a1_j v_length_j v_tape_j v_at_j v_kind_j v_stop_j) (pReader_takeWord_b63 N a1 v_length v_tape v_at v_kind v_stop) := by
  subst t_N
  subst t_a1
  subst t_v_length
  subst t_v_tape
  subst t_v_at
  subst t_v_kind
  subst t_v_stop
  unfold iReader_takeWord_b63 pReader_takeWord_b63
  refine tl_bd3 (t_pReader_next (Eq.refl N) (Eq.refl (mI v_at)) (Eq.refl (mI v_kind)) (Eq.refl (mI v_length)) (Eq.refl (mI v_stop)) (Eq.refl (mA v_tape))) (fun v_at_c3 v_kind_c3 v_stop_c3 => ?_)
  exact (tl_some (jp2 jlitI_1 (jp2 (Eq.refl (mI v_at_c3)) (jp2 (Eq.refl (mI v_kind_c3)) (Eq.refl (mI v_stop_c3))))))
theorem t_pReader_takeWord {N N_j : Nat} (t_N : N = N_j) {a1 a1_j : Nat} (t_a1 : a1 = a1_j) {v_at : Int32} {v_at_j : Int} (t_v_at : mI v_at = v_at_j) {v_kind : Int32} {v_kind_j : Int} (t_v_kind : mI v_kind = v_kind_j) {v_length : Int32} {v_length_j : Int} (t_v_length : mI v_length = v_length_j) {v_stop : Int32} {v_stop_j : Int} (t_v_stop : mI v_stop = v_stop_j) {v_tape : (Nat → Int32)} {v_tape_j : (Nat → Int)} (t_v_tape : mA v_tape = v_tape_j) : tl (mP mI (mP mI (mP mI mI))) (iReader_takeWord N_j a1_j v_at_j v_kind_j v_length_j v_stop_j v_tape_j) (pReader_takeWord N a1 v_at v_kind v_length v_stop v_tape) := by
  subst t_N
  subst t_a1
  subst t_v_at
  subst t_v_kind
  subst t_v_length
  subst t_v_stop
  subst t_v_tape
  unfold iReader_takeWord pReader_takeWord
  refine tl_ite (jc_eq (Eq.refl (mI v_kind)) jlitI_1) ?_ ?_
  · refine tl_g (fun h1 => ?_)
    refine tl_g (fun h2 => ?_)
    refine tl_ite (jc_eq (ja_sub (Eq.refl (mI v_stop)) (Eq.refl (mI v_at)) h1) (ja_of h2)) ?_ ?_
    · exact (t_pReader_takeWord_b28 (Eq.refl N) (Eq.refl a1) (Eq.refl (mI v_length)) (Eq.refl (mA v_tape)) (Eq.refl (mI v_at)) (Eq.refl (mI v_kind)) (Eq.refl (mI v_stop)) (t_pReader_takeWord_b63 (Eq.refl N) (Eq.refl a1) (Eq.refl (mI v_length)) (Eq.refl (mA v_tape)) (Eq.refl (mI v_at)) (Eq.refl (mI v_kind)) (Eq.refl (mI v_stop))) (Eq.refl N) jlitI_0)
    · exact (tl_some (jp2 jlitI_0 (jp2 (Eq.refl (mI v_at)) (jp2 (Eq.refl (mI v_kind)) (Eq.refl (mI v_stop))))))
  · exact (tl_some (jp2 jlitI_0 (jp2 (Eq.refl (mI v_at)) (jp2 (Eq.refl (mI v_kind)) (Eq.refl (mI v_stop))))))
theorem t_pReader_fail {a1 : Int32} {a1_j : Int} (t_a1 : mI a1 = a1_j) {a2 : Int32} {a2_j : Int} (t_a2 : mI a2 = a2_j) {v_fault : Int32} {v_fault_j : Int} (t_v_fault : mI v_fault = v_fault_j) {v_faultAt : Int32} {v_faultAt_j : Int} (t_v_faultAt : mI v_faultAt = v_faultAt_j) : tl (mP mI (mP mI mI)) (iReader_fail a1_j a2_j v_fault_j v_faultAt_j) (pReader_fail a1 a2 v_fault v_faultAt) := by
  subst t_a1
  subst t_a2
  subst t_v_fault
  subst t_v_faultAt
  unfold iReader_fail pReader_fail
  exact (tl_some (jp2 jlitI_0 (jp2 (Eq.refl (mI a1)) (Eq.refl (mI a2)))))
theorem t_pReader_readNumber_b55_F {N N_j : Nat} (t_N : N = N_j) {a1 : Int32} {a1_j : Int} (t_a1 : mI a1 = a1_j) {a2 : Int32} {a2_j : Int} (t_a2 : mI a2 = a2_j) {v_length : Int32} {v_length_j : Int} (t_v_length : mI v_length = v_length_j) {v_tape : (Nat → Int32)} {v_tape_j : (Nat → Int)} (t_v_tape : mA v_tape = v_tape_j) {v_at : Int32} {v_at_j : Int} (t_v_at : mI v_at = v_at_j) {v_fault : Int32} {v_fault_j : Int} (t_v_fault : mI v_fault = v_fault_j) {v_faultAt : Int32} {v_faultAt_j : Int} (t_v_faultAt : mI v_faultAt = v_faultAt_j) {v_kind : Int32} {v_kind_j : Int} (t_v_kind : mI v_kind = v_kind_j) {v_stop : Int32} {v_stop_j : Int} (t_v_stop : mI v_stop = v_stop_j) {k86 : Int32 → Option R_pReader_readNumber} {k86_j : Int → Option R_iReader_readNumber} (t_k86 : ∀ (q0_ : Int32), tl (mP mI (mP mI (mP mI (mP mI (mP mI mI))))) (k86_j (mI q0_)) (k86 q0_)) {self : Int32 → Int32 → Option R_pReader_readNumber} {self_j : Int → Int → Option R_iReader_readNumber} (t_self : ∀ (q0_ : Int32) (q1_ : Int32), tl (mP mI (mP mI (mP mI (mP mI (mP mI mI))))) (self_j (mI q0_) (mI q1_)) (self q0_ q1_)) {x3 : Int32} {x3_j : Int} (t_x3 : mI x3 = x3_j) {x4 : Int32} {x4_j : Int} (t_x4 : mI x4 = x4_j) : tl (mP mI (mP mI (mP mI (mP mI (mP mI mI))))) (iReader_readNumber_b55_F N_j a1_j a2_j v_length_j v_tape_j v_at_j v_fault_j v_faultAt_j v_kind_j v_stop_j k86_j self_j x3_j x4_j) (pReader_readNumber_b55_F N a1 a2 v_length v_tape v_at v_fault v_faultAt v_kind v_stop k86 self x3 x4) := by
  subst t_N
  subst t_a1
  subst t_a2
  subst t_v_length
  subst t_v_tape
  subst t_v_at
  subst t_v_fault
  subst t_v_faultAt
  subst t_v_kind
  subst t_v_stop
  subst t_x3
  subst t_x4
  unfold iReader_readNumber_b55_F pReader_readNumber_b55_F
  refine tl_ite (jc_le (Eq.refl (mI v_stop)) (Eq.refl (mI x4))) ?_ ?_
  · exact (tl_e1 (Eq.refl (mI x3)) (t_k86 _))
  · refine tl_gd (jg_ib (Eq.refl (mI x4))) (fun _ => ?_)
    refine tl_g (fun h1 => ?_)
    refine tl_g (fun h2 => ?_)
    refine tl_g (fun h3 => ?_)
    refine tl_g (fun h4 => ?_)
    exact (tl_e2 (ja_sub (ja_add (ja_mul (Eq.refl (mI x3)) jlitI_10 h1) (jrd (Eq.refl (mA v_tape)) (jx (Eq.refl (mI x4)))) h2) jlitI_48 h3) (ja_add (Eq.refl (mI x4)) jlitI_1 h4) (t_self _ _))
theorem t_pReader_readNumber_b55 {N N_j : Nat} (t_N : N = N_j) {a1 : Int32} {a1_j : Int} (t_a1 : mI a1 = a1_j) {a2 : Int32} {a2_j : Int} (t_a2 : mI a2 = a2_j) {v_length : Int32} {v_length_j : Int} (t_v_length : mI v_length = v_length_j) {v_tape : (Nat → Int32)} {v_tape_j : (Nat → Int)} (t_v_tape : mA v_tape = v_tape_j) {v_at : Int32} {v_at_j : Int} (t_v_at : mI v_at = v_at_j) {v_fault : Int32} {v_fault_j : Int} (t_v_fault : mI v_fault = v_fault_j) {v_faultAt : Int32} {v_faultAt_j : Int} (t_v_faultAt : mI v_faultAt = v_faultAt_j) {v_kind : Int32} {v_kind_j : Int} (t_v_kind : mI v_kind = v_kind_j) {v_stop : Int32} {v_stop_j : Int} (t_v_stop : mI v_stop = v_stop_j) {k86 : Int32 → Option R_pReader_readNumber} {k86_j : Int → Option R_iReader_readNumber} (t_k86 : ∀ (q0_ : Int32), tl (mP mI (mP mI (mP mI (mP mI (mP mI mI))))) (k86_j (mI q0_)) (k86 q0_)) {n n_j : Nat} (t_n : n = n_j) {w0_ : Int32} {w0__j : Int} (t_w0_ : mI w0_ = w0__j) {w1_ : Int32} {w1__j : Int} (t_w1_ : mI w1_ = w1__j) : tl (mP mI (mP mI (mP mI (mP mI (mP mI mI))))) (iReader_readNumber_b55 N_j a1_j a2_j v_length_j v_tape_j v_at_j v_fault_j v_faultAt_j v_kind_j v_stop_j k86_j n_j w0__j w1__j) (pReader_readNumber_b55 N a1 a2 v_length v_tape v_at v_fault v_faultAt v_kind v_stop k86 n w0_ w1_) := by
  subst t_N
  subst t_a1
  subst t_a2
  subst t_v_length
  subst t_v_tape
  subst t_v_at
  subst t_v_fault
  subst t_v_faultAt
  subst t_v_kind
  subst t_v_stop
  subst t_n
  subst t_w0_
  subst t_w1_
  exact tl_zlp2 (fun s2 s hs w0_ w1_ => t_pReader_readNumber_b55_F (Eq.refl N) (Eq.refl (mI a1)) (Eq.refl (mI a2)) (Eq.refl (mI v_length)) (Eq.refl (mA v_tape)) (Eq.refl (mI v_at)) (Eq.refl (mI v_fault)) (Eq.refl (mI v_faultAt)) (Eq.refl (mI v_kind)) (Eq.refl (mI v_stop)) t_k86 hs (Eq.refl (mI w0_)) (Eq.refl (mI w1_))) n w0_ w1_
theorem t_pReader_readNumber_b96 {N N_j : Nat} (t_N : N = N_j) {a1 : Int32} {a1_j : Int} (t_a1 : mI a1 = a1_j) {a2 : Int32} {a2_j : Int} (t_a2 : mI a2 = a2_j) {v_length : Int32} {v_length_j : Int} (t_v_length : mI v_length = v_length_j) {v_tape : (Nat → Int32)} {v_tape_j : (Nat → Int)} (t_v_tape : mA v_tape = v_tape_j) {v_at : Int32} {v_at_j : Int} (t_v_at : mI v_at = v_at_j) {v_fault : Int32} {v_fault_j : Int} (t_v_fault : mI v_fault = v_fault_j) {v_faultAt : Int32} {v_faultAt_j : Int} (t_v_faultAt : mI v_faultAt = v_faultAt_j) {v_kind : Int32} {v_kind_j : Int} (t_v_kind : mI v_kind = v_kind_j) {v_stop : Int32} {v_stop_j : Int} (t_v_stop : mI v_stop = v_stop_j) : tl (mP mI (mP mI (mP mI (mP mI (mP mI mI))))) (iReader_readNumber_b96 N_j a1_j a2_j v_length_j v_tape_j v_at_j v_fault_j v_faultAt_j v_kind_j v_stop_j) (pReader_readNumber_b96 N a1 a2 v_length v_tape v_at v_fault v_faultAt v_kind v_stop) := by
  subst t_N
  subst t_a1
  subst t_a2
  subst t_v_length
  subst t_v_tape
  subst t_v_at
  subst t_v_fault
  subst t_v_faultAt
  subst t_v_kind
  subst t_v_stop
  unfold iReader_readNumber_b96 pReader_readNumber_b96
  refine tl_bd3 (t_pReader_fail jlitI_2 (Eq.refl (mI v_at)) (Eq.refl (mI v_fault)) (Eq.refl (mI v_faultAt))) (fun rc5 v_fault_c5 v_faultAt_c5 => ?_)
  exact (tl_some (jp2 jlitI_m1 (jp2 (Eq.refl (mI v_at)) (jp2 (Eq.refl (mI v_fault_c5)) (jp2 (Eq.refl (mI v_faultAt_c5)) (jp2 (Eq.refl (mI v_kind)) (Eq.refl (mI v_stop))))))))
theorem t_pReader_readNumber_b86 {N N_j : Nat} (t_N : N = N_j) {a1 : Int32} {a1_j : Int} (t_a1 : mI a1 = a1_j) {a2 : Int32} {a2_j : Int} (t_a2 : mI a2 = a2_j) {v_length : Int32} {v_length_j : Int} (t_v_length : mI v_length = v_length_j) {v_tape : (Nat → Int32)} {v_tape_j : (Nat → Int)} (t_v_tape : mA v_tape = v_tape_j) {x3 : Int32} {x3_j : Int} (t_x3 : mI x3 = x3_j) {v_at : Int32} {v_at_j : Int} (t_v_at : mI v_at = v_at_j) {v_fault : Int32} {v_fault_j : Int} (t_v_fault : mI v_fault = v_fault_j) {v_faultAt : Int32} {v_faultAt_j : Int} (t_v_faultAt : mI v_faultAt = v_faultAt_j) {v_kind : Int32} {v_kind_j : Int} (t_v_kind : mI v_kind = v_kind_j) {v_stop : Int32} {v_stop_j : Int} (t_v_stop : mI v_stop = v_stop_j) : tl (mP mI (mP mI (mP mI (mP mI (mP mI mI))))) (iReader_readNumber_b86 N_j a1_j a2_j v_length_j v_tape_j x3_j v_at_j v_fault_j v_faultAt_j v_kind_j v_stop_j) (pReader_readNumber_b86 N a1 a2 v_length v_tape x3 v_at v_fault v_faultAt v_kind v_stop) := by
  subst t_N
  subst t_a1
  subst t_a2
  subst t_v_length
  subst t_v_tape
  subst t_x3
  subst t_v_at
  subst t_v_fault
  subst t_v_faultAt
  subst t_v_kind
  subst t_v_stop
  unfold iReader_readNumber_b86 pReader_readNumber_b86
  refine tl_ite (jc_lt (Eq.refl (mI x3)) (Eq.refl (mI a1))) ?_ ?_
  · exact (t_pReader_readNumber_b96 (Eq.refl N) (Eq.refl (mI a1)) (Eq.refl (mI a2)) (Eq.refl (mI v_length)) (Eq.refl (mA v_tape)) (Eq.refl (mI v_at)) (Eq.refl (mI v_fault)) (Eq.refl (mI v_faultAt)) (Eq.refl (mI v_kind)) (Eq.refl (mI v_stop)))
  · refine tl_ite (jc_le (Eq.refl (mI x3)) (Eq.refl (mI a2))) ?_ ?_
    · refine tl_bd3 (t_pReader_next (Eq.refl N) (Eq.refl (mI v_at)) (Eq.refl (mI v_kind)) (Eq.refl (mI v_length)) (Eq.refl (mI v_stop)) (Eq.refl (mA v_tape))) (fun v_at_c4 v_kind_c4 v_stop_c4 => ?_)
      exact (tl_some (jp2 (Eq.refl (mI x3)) (jp2 (Eq.refl (mI v_at_c4)) (jp2 (Eq.refl (mI v_fault)) (jp2 (Eq.refl (mI v_faultAt)) (jp2 (Eq.refl (mI v_kind_c4)) (Eq.refl (mI v_stop_c4))))))))
    · exact (t_pReader_readNumber_b96 (Eq.refl N) (Eq.refl (mI a1)) (Eq.refl (mI a2)) (Eq.refl (mI v_length)) (Eq.refl (mA v_tape)) (Eq.refl (mI v_at)) (Eq.refl (mI v_fault)) (Eq.refl (mI v_faultAt)) (Eq.refl (mI v_kind)) (Eq.refl (mI v_stop)))
theorem t_pReader_readNumber {N N_j : Nat} (t_N : N = N_j) {a1 : Int32} {a1_j : Int} (t_a1 : mI a1 = a1_j) {a2 : Int32} {a2_j : Int} (t_a2 : mI a2 = a2_j) {v_at : Int32} {v_at_j : Int} (t_v_at : mI v_at = v_at_j) {v_fault : Int32} {v_fault_j : Int} (t_v_fault : mI v_fault = v_fault_j) {v_faultAt : Int32} {v_faultAt_j : Int} (t_v_faultAt : mI v_faultAt = v_faultAt_j) {v_kind : Int32} {v_kind_j : Int} (t_v_kind : mI v_kind = v_kind_j) {v_length : Int32} {v_length_j : Int} (t_v_length : mI v_length = v_length_j) {v_stop : Int32} {v_stop_j : Int} (t_v_stop : mI v_stop = v_stop_j) {v_tape : (Nat → Int32)} {v_tape_j : (Nat → Int)} (t_v_tape : mA v_tape = v_tape_j) : tl (mP mI (mP mI (mP mI (mP mI (mP mI mI))))) (iReader_readNumber N_j a1_j a2_j v_at_j v_fault_j v_faultAt_j v_kind_j v_length_j v_stop_j v_tape_j) (pReader_readNumber N a1 a2 v_at v_fault v_faultAt v_kind v_length v_stop v_tape) := by
  subst t_N
  subst t_a1
  subst t_a2
  subst t_v_at
  subst t_v_fault
  subst t_v_faultAt
  subst t_v_kind
  subst t_v_length
  subst t_v_stop
  subst t_v_tape
  unfold iReader_readNumber pReader_readNumber
  refine tl_ite (jc_eq (Eq.refl (mI v_kind)) jlitI_2) ?_ ?_
  · refine tl_g (fun h1 => ?_)
    refine tl_ite (jc_le (ja_sub (Eq.refl (mI v_stop)) (Eq.refl (mI v_at)) h1) jlitI_5) ?_ ?_
    · exact (t_pReader_readNumber_b55 (Eq.refl N) (Eq.refl (mI a1)) (Eq.refl (mI a2)) (Eq.refl (mI v_length)) (Eq.refl (mA v_tape)) (Eq.refl (mI v_at)) (Eq.refl (mI v_fault)) (Eq.refl (mI v_faultAt)) (Eq.refl (mI v_kind)) (Eq.refl (mI v_stop)) (fun x3_k1 => by exact (t_pReader_readNumber_b86 (Eq.refl N) (Eq.refl (mI a1)) (Eq.refl (mI a2)) (Eq.refl (mI v_length)) (Eq.refl (mA v_tape)) (Eq.refl (mI x3_k1)) (Eq.refl (mI v_at)) (Eq.refl (mI v_fault)) (Eq.refl (mI v_faultAt)) (Eq.refl (mI v_kind)) (Eq.refl (mI v_stop)))) (Eq.refl N) jlitI_0 (Eq.refl (mI v_at)))
    · refine tl_g (fun h2 => ?_)
      refine tl_bd3 (t_pReader_fail jlitI_1 (ja_add (Eq.refl (mI v_at)) jlitI_5 h2) (Eq.refl (mI v_fault)) (Eq.refl (mI v_faultAt))) (fun rc1 v_fault_c1 v_faultAt_c1 => ?_)
      exact (tl_some (jp2 jlitI_m1 (jp2 (Eq.refl (mI v_at)) (jp2 (Eq.refl (mI v_fault_c1)) (jp2 (Eq.refl (mI v_faultAt_c1)) (jp2 (Eq.refl (mI v_kind)) (Eq.refl (mI v_stop))))))))
  · refine tl_bd3 (t_pReader_fail jlitI_1 (Eq.refl (mI v_at)) (Eq.refl (mI v_fault)) (Eq.refl (mI v_faultAt))) (fun rc2 v_fault_c2 v_faultAt_c2 => ?_)
    exact (tl_some (jp2 jlitI_m1 (jp2 (Eq.refl (mI v_at)) (jp2 (Eq.refl (mI v_fault_c2)) (jp2 (Eq.refl (mI v_faultAt_c2)) (jp2 (Eq.refl (mI v_kind)) (Eq.refl (mI v_stop))))))))
theorem t_pReader_takeUnit {N N_j : Nat} (t_N : N = N_j) {v_at : Int32} {v_at_j : Int} (t_v_at : mI v_at = v_at_j) {v_kind : Int32} {v_kind_j : Int} (t_v_kind : mI v_kind = v_kind_j) {v_length : Int32} {v_length_j : Int} (t_v_length : mI v_length = v_length_j) {v_stop : Int32} {v_stop_j : Int} (t_v_stop : mI v_stop = v_stop_j) {v_tape : (Nat → Int32)} {v_tape_j : (Nat → Int)} (t_v_tape : mA v_tape = v_tape_j) : tl (mP mI (mP mI (mP mI mI))) (iReader_takeUnit N_j v_at_j v_kind_j v_length_j v_stop_j v_tape_j) (pReader_takeUnit N v_at v_kind v_length v_stop v_tape) := by
  subst t_N
  subst t_v_at
  subst t_v_kind
  subst t_v_length
  subst t_v_stop
  subst t_v_tape
  unfold iReader_takeUnit pReader_takeUnit
  refine tl_bd4 (t_pReader_takeWord (Eq.refl N) (Eq.refl _) (Eq.refl (mI v_at)) (Eq.refl (mI v_kind)) (Eq.refl (mI v_length)) (Eq.refl (mI v_stop)) (Eq.refl (mA v_tape))) (fun rc1 v_at_c1 v_kind_c1 v_stop_c1 => ?_)
  refine tl_ite (jc_eq (Eq.refl (mI rc1)) jlitI_0) ?_ ?_
  · refine tl_bd4 (t_pReader_takeWord (Eq.refl N) (Eq.refl _) (Eq.refl (mI v_at_c1)) (Eq.refl (mI v_kind_c1)) (Eq.refl (mI v_length)) (Eq.refl (mI v_stop_c1)) (Eq.refl (mA v_tape))) (fun rc2 v_at_c2 v_kind_c2 v_stop_c2 => ?_)
    refine tl_ite (jc_eq (Eq.refl (mI rc2)) jlitI_0) ?_ ?_
    · refine tl_bd4 (t_pReader_takeWord (Eq.refl N) (Eq.refl _) (Eq.refl (mI v_at_c2)) (Eq.refl (mI v_kind_c2)) (Eq.refl (mI v_length)) (Eq.refl (mI v_stop_c2)) (Eq.refl (mA v_tape))) (fun rc3 v_at_c3 v_kind_c3 v_stop_c3 => ?_)
      exact (tl_some (jp2 jlitI_1 (jp2 (Eq.refl (mI v_at_c3)) (jp2 (Eq.refl (mI v_kind_c3)) (Eq.refl (mI v_stop_c3))))))
    · exact (tl_some (jp2 jlitI_12 (jp2 (Eq.refl (mI v_at_c2)) (jp2 (Eq.refl (mI v_kind_c2)) (Eq.refl (mI v_stop_c2))))))
  · exact (tl_some (jp2 jlitI_240 (jp2 (Eq.refl (mI v_at_c1)) (jp2 (Eq.refl (mI v_kind_c1)) (Eq.refl (mI v_stop_c1))))))
theorem t_pReader_emit {a1 : Int32} {a1_j : Int} (t_a1 : mI a1 = a1_j) {v_at : Int32} {v_at_j : Int} (t_v_at : mI v_at = v_at_j) {v_fault : Int32} {v_fault_j : Int} (t_v_fault : mI v_fault = v_fault_j) {v_faultAt : Int32} {v_faultAt_j : Int} (t_v_faultAt : mI v_faultAt = v_faultAt_j) {v_size : Int32} {v_size_j : Int} (t_v_size : mI v_size = v_size_j) {v_code : (Nat → Int32)} {v_code_j : (Nat → Int)} (t_v_code : mA v_code = v_code_j) : tl (mP mI (mP mI (mP mI (mP mI mA)))) (iReader_emit a1_j v_at_j v_fault_j v_faultAt_j v_size_j v_code_j) (pReader_emit a1 v_at v_fault v_faultAt v_size v_code) := by
  subst t_a1
  subst t_v_at
  subst t_v_fault
  subst t_v_faultAt
  subst t_v_size
  subst t_v_code
  unfold iReader_emit pReader_emit
  refine tl_ite (jc_lt (Eq.refl (mI v_size)) jlitI_600) ?_ ?_
  · refine tl_gd (jg_ib (Eq.refl (mI v_size))) (fun _ => ?_)
    refine tl_g (fun h1 => ?_)
    exact (tl_some (jp2 jlitI_1 (jp2 (Eq.refl (mI v_fault)) (jp2 (Eq.refl (mI v_faultAt)) (jp2 (ja_add (Eq.refl (mI v_size)) jlitI_1 h1) (jupA (Eq.refl (mA v_code)) (jx (Eq.refl (mI v_size))) (Eq.refl (mI a1))))))))
  · refine tl_bd3 (t_pReader_fail jlitI_1 (Eq.refl (mI v_at)) (Eq.refl (mI v_fault)) (Eq.refl (mI v_faultAt))) (fun rc2 v_fault_c2 v_faultAt_c2 => ?_)
    refine tl_gd (jg_isB (Eq.refl (mI rc2))) (fun _ => ?_)
    exact (tl_some (jp2 (Eq.refl (mI rc2)) (jp2 (Eq.refl (mI v_fault_c2)) (jp2 (Eq.refl (mI v_faultAt_c2)) (jp2 (Eq.refl (mI v_size)) (Eq.refl (mA v_code)))))))
theorem t_pReader_takeMark {N N_j : Nat} (t_N : N = N_j) {a1 : Int32} {a1_j : Int} (t_a1 : mI a1 = a1_j) {v_at : Int32} {v_at_j : Int} (t_v_at : mI v_at = v_at_j) {v_kind : Int32} {v_kind_j : Int} (t_v_kind : mI v_kind = v_kind_j) {v_length : Int32} {v_length_j : Int} (t_v_length : mI v_length = v_length_j) {v_stop : Int32} {v_stop_j : Int} (t_v_stop : mI v_stop = v_stop_j) {v_tape : (Nat → Int32)} {v_tape_j : (Nat → Int)} (t_v_tape : mA v_tape = v_tape_j) : tl (mP mI (mP mI (mP mI mI))) (iReader_takeMark N_j a1_j v_at_j v_kind_j v_length_j v_stop_j v_tape_j) (pReader_takeMark N a1 v_at v_kind v_length v_stop v_tape) := by
  subst t_N
  subst t_a1
  subst t_v_at
  subst t_v_kind
  subst t_v_length
  subst t_v_stop
  subst t_v_tape
  unfold iReader_takeMark pReader_takeMark
  refine tl_ite (jc_eq (Eq.refl (mI v_kind)) jlitI_3) ?_ ?_
  · refine tl_gd (jg_ib (Eq.refl (mI v_at))) (fun _ => ?_)
    refine tl_ite (jc_eq (jrd (Eq.refl (mA v_tape)) (jx (Eq.refl (mI v_at)))) (Eq.refl (mI a1))) ?_ ?_
    · refine tl_bd3 (t_pReader_next (Eq.refl N) (Eq.refl (mI v_at)) (Eq.refl (mI v_kind)) (Eq.refl (mI v_length)) (Eq.refl (mI v_stop)) (Eq.refl (mA v_tape))) (fun v_at_c2 v_kind_c2 v_stop_c2 => ?_)
      exact (tl_some (jp2 jlitI_1 (jp2 (Eq.refl (mI v_at_c2)) (jp2 (Eq.refl (mI v_kind_c2)) (Eq.refl (mI v_stop_c2))))))
    · exact (tl_some (jp2 jlitI_0 (jp2 (Eq.refl (mI v_at)) (jp2 (Eq.refl (mI v_kind)) (Eq.refl (mI v_stop))))))
  · exact (tl_some (jp2 jlitI_0 (jp2 (Eq.refl (mI v_at)) (jp2 (Eq.refl (mI v_kind)) (Eq.refl (mI v_stop))))))
theorem t_pReader_opens {a1 : Int32} {a1_j : Int} (t_a1 : mI a1 = a1_j) {v_fault : Int32} {v_fault_j : Int} (t_v_fault : mI v_fault = v_fault_j) {v_faultAt : Int32} {v_faultAt_j : Int} (t_v_faultAt : mI v_faultAt = v_faultAt_j) {v_open : Int32} {v_open_j : Int} (t_v_open : mI v_open = v_open_j) : tl (mP mI (mP mI (mP mI mI))) (iReader_opens a1_j v_fault_j v_faultAt_j v_open_j) (pReader_opens a1 v_fault v_faultAt v_open) := by
  subst t_a1
  subst t_v_fault
  subst t_v_faultAt
  subst t_v_open
  unfold iReader_opens pReader_opens
  refine tl_ite (jc_lt (Eq.refl (mI v_open)) jlitI_6) ?_ ?_
  · refine tl_g (fun h1 => ?_)
    exact (tl_some (jp2 jlitI_1 (jp2 (Eq.refl (mI v_fault)) (jp2 (Eq.refl (mI v_faultAt)) (ja_add (Eq.refl (mI v_open)) jlitI_1 h1)))))
  · refine tl_bd3 (t_pReader_fail jlitI_3 (Eq.refl (mI a1)) (Eq.refl (mI v_fault)) (Eq.refl (mI v_faultAt))) (fun rc1 v_fault_c1 v_faultAt_c1 => ?_)
    refine tl_gd (jg_isB (Eq.refl (mI rc1))) (fun _ => ?_)
    exact (tl_some (jp2 (Eq.refl (mI rc1)) (jp2 (Eq.refl (mI v_fault_c1)) (jp2 (Eq.refl (mI v_faultAt_c1)) (Eq.refl (mI v_open))))))
theorem t_pReader_needMark {N N_j : Nat} (t_N : N = N_j) {a1 : Int32} {a1_j : Int} (t_a1 : mI a1 = a1_j) {v_at : Int32} {v_at_j : Int} (t_v_at : mI v_at = v_at_j) {v_fault : Int32} {v_fault_j : Int} (t_v_fault : mI v_fault = v_fault_j) {v_faultAt : Int32} {v_faultAt_j : Int} (t_v_faultAt : mI v_faultAt = v_faultAt_j) {v_kind : Int32} {v_kind_j : Int} (t_v_kind : mI v_kind = v_kind_j) {v_length : Int32} {v_length_j : Int} (t_v_length : mI v_length = v_length_j) {v_stop : Int32} {v_stop_j : Int} (t_v_stop : mI v_stop = v_stop_j) {v_tape : (Nat → Int32)} {v_tape_j : (Nat → Int)} (t_v_tape : mA v_tape = v_tape_j) : tl (mP mI (mP mI (mP mI (mP mI (mP mI mI))))) (iReader_needMark N_j a1_j v_at_j v_fault_j v_faultAt_j v_kind_j v_length_j v_stop_j v_tape_j) (pReader_needMark N a1 v_at v_fault v_faultAt v_kind v_length v_stop v_tape) := by
  subst t_N
  subst t_a1
  subst t_v_at
  subst t_v_fault
  subst t_v_faultAt
  subst t_v_kind
  subst t_v_length
  subst t_v_stop
  subst t_v_tape
  unfold iReader_needMark pReader_needMark
  refine tl_bd4 (t_pReader_takeMark (Eq.refl N) (Eq.refl (mI a1)) (Eq.refl (mI v_at)) (Eq.refl (mI v_kind)) (Eq.refl (mI v_length)) (Eq.refl (mI v_stop)) (Eq.refl (mA v_tape))) (fun rc1 v_at_c1 v_kind_c1 v_stop_c1 => ?_)
  refine tl_ite (jc_eq (Eq.refl (mI rc1)) jlitI_0) ?_ ?_
  · refine tl_bd3 (t_pReader_fail jlitI_1 (Eq.refl (mI v_at_c1)) (Eq.refl (mI v_fault)) (Eq.refl (mI v_faultAt))) (fun rc2 v_fault_c2 v_faultAt_c2 => ?_)
    refine tl_ite (jc_eq (Eq.refl (mI rc2)) jlitI_0) ?_ ?_
    · exact (tl_some (jp2 jlitI_0 (jp2 (Eq.refl (mI v_at_c1)) (jp2 (Eq.refl (mI v_fault_c2)) (jp2 (Eq.refl (mI v_faultAt_c2)) (jp2 (Eq.refl (mI v_kind_c1)) (Eq.refl (mI v_stop_c1))))))))
    · exact (tl_some (jp2 jlitI_1 (jp2 (Eq.refl (mI v_at_c1)) (jp2 (Eq.refl (mI v_fault_c2)) (jp2 (Eq.refl (mI v_faultAt_c2)) (jp2 (Eq.refl (mI v_kind_c1)) (Eq.refl (mI v_stop_c1))))))))
  · exact (tl_some (jp2 jlitI_1 (jp2 (Eq.refl (mI v_at_c1)) (jp2 (Eq.refl (mI v_fault)) (jp2 (Eq.refl (mI v_faultAt)) (jp2 (Eq.refl (mI v_kind_c1)) (Eq.refl (mI v_stop_c1))))))))
theorem t_pReader_closes {v_open : Int32} {v_open_j : Int} (t_v_open : mI v_open = v_open_j) : tl (mP mI mI) (iReader_closes v_open_j) (pReader_closes v_open) := by
  subst t_v_open
  unfold iReader_closes pReader_closes
  refine tl_g (fun h1 => ?_)
  exact (tl_some (jp2 jlitI_1 (ja_sub (Eq.refl (mI v_open)) jlitI_1 h1)))
theorem t_pReader_readPart_b209 {N N_j : Nat} (t_N : N = N_j) {rec : Nat → Int32 → Int32 → Int32 → Int32 → Int32 → Int32 → Int32 → (Nat → Int32) → Option R_pReader_readPart} {rec_j : Nat → Int → Int → Int → Int → Int → Int → Int → (Nat → Int) → Option R_iReader_readPart} (t_rec : ∀ (q0_ : Nat) (q1_ : Int32) (q2_ : Int32) (q3_ : Int32) (q4_ : Int32) (q5_ : Int32) (q6_ : Int32) (q7_ : Int32) (q8_ : (Nat → Int32)), tl (mP mI (mP mI (mP mI (mP mI (mP mI (mP mI (mP mI (mP mI mA)))))))) (rec_j q0_ (mI q1_) (mI q2_) (mI q3_) (mI q4_) (mI q5_) (mI q6_) (mI q7_) (mA q8_)) (rec q0_ q1_ q2_ q3_ q4_ q5_ q6_ q7_ q8_)) {v_length : Int32} {v_length_j : Int} (t_v_length : mI v_length = v_length_j) {v_tape : (Nat → Int32)} {v_tape_j : (Nat → Int)} (t_v_tape : mA v_tape = v_tape_j) {s0 : Int32} {s0_j : Int} (t_s0 : mI s0 = s0_j) {v_at : Int32} {v_at_j : Int} (t_v_at : mI v_at = v_at_j) {v_fault : Int32} {v_fault_j : Int} (t_v_fault : mI v_fault = v_fault_j) {v_faultAt : Int32} {v_faultAt_j : Int} (t_v_faultAt : mI v_faultAt = v_faultAt_j) {v_kind : Int32} {v_kind_j : Int} (t_v_kind : mI v_kind = v_kind_j) {v_open : Int32} {v_open_j : Int} (t_v_open : mI v_open = v_open_j) {v_size : Int32} {v_size_j : Int} (t_v_size : mI v_size = v_size_j) {v_stop : Int32} {v_stop_j : Int} (t_v_stop : mI v_stop = v_stop_j) {v_code : (Nat → Int32)} {v_code_j : (Nat → Int)} (t_v_code : mA v_code = v_code_j) : tl (mP mI (mP mI (mP mI (mP mI (mP mI (mP mI (mP mI (mP mI mA)))))))) (iReader_readPart_b209 N_j rec_j v_length_j v_tape_j s0_j v_at_j v_fault_j v_faultAt_j v_kind_j v_open_j v_size_j v_stop_j v_code_j) (pReader_readPart_b209 N rec v_length v_tape s0 v_at v_fault v_faultAt v_kind v_open v_size v_stop v_code) := by
  subst t_N
  subst t_v_length
  subst t_v_tape
  subst t_s0
  subst t_v_at
  subst t_v_fault
  subst t_v_faultAt
  subst t_v_kind
  subst t_v_open
  subst t_v_size
  subst t_v_stop
  subst t_v_code
  unfold iReader_readPart_b209 pReader_readPart_b209
  refine tl_ite (jc_eq (Eq.refl (mI s0)) jlitI_0) ?_ ?_
  · refine tl_bd3 (t_pReader_fail jlitI_1 (Eq.refl (mI v_at)) (Eq.refl (mI v_fault)) (Eq.refl (mI v_faultAt))) (fun rc20 v_fault_c20 v_faultAt_c20 => ?_)
    refine tl_gd (jg_isB (Eq.refl (mI rc20))) (fun _ => ?_)
    exact (tl_some (jp2 (Eq.refl (mI rc20)) (jp2 (Eq.refl (mI v_at)) (jp2 (Eq.refl (mI v_fault_c20)) (jp2 (Eq.refl (mI v_faultAt_c20)) (jp2 (Eq.refl (mI v_kind)) (jp2 (Eq.refl (mI v_open)) (jp2 (Eq.refl (mI v_size)) (jp2 (Eq.refl (mI v_stop)) (Eq.refl (mA v_code)))))))))))
  · refine tl_bd5 (t_pReader_emit (Eq.refl (mI s0)) (Eq.refl (mI v_at)) (Eq.refl (mI v_fault)) (Eq.refl (mI v_faultAt)) (Eq.refl (mI v_size)) (Eq.refl (mA v_code))) (fun rc19 v_fault_c19 v_faultAt_c19 v_size_c19 v_code_c19 => ?_)
    refine tl_gd (jg_isB (Eq.refl (mI rc19))) (fun _ => ?_)
    exact (tl_some (jp2 (Eq.refl (mI rc19)) (jp2 (Eq.refl (mI v_at)) (jp2 (Eq.refl (mI v_fault_c19)) (jp2 (Eq.refl (mI v_faultAt_c19)) (jp2 (Eq.refl (mI v_kind)) (jp2 (Eq.refl (mI v_open)) (jp2 (Eq.refl (mI v_size_c19)) (jp2 (Eq.refl (mI v_stop)) (Eq.refl (mA v_code_c19)))))))))))
theorem t_pReader_readPart_G {N N_j : Nat} (t_N : N = N_j) {rec : Nat → Int32 → Int32 → Int32 → Int32 → Int32 → Int32 → Int32 → (Nat → Int32) → Option R_pReader_readPart} {rec_j : Nat → Int → Int → Int → Int → Int → Int → Int → (Nat → Int) → Option R_iReader_readPart} (t_rec : ∀ (q0_ : Nat) (q1_ : Int32) (q2_ : Int32) (q3_ : Int32) (q4_ : Int32) (q5_ : Int32) (q6_ : Int32) (q7_ : Int32) (q8_ : (Nat → Int32)), tl (mP mI (mP mI (mP mI (mP mI (mP mI (mP mI (mP mI (mP mI mA)))))))) (rec_j q0_ (mI q1_) (mI q2_) (mI q3_) (mI q4_) (mI q5_) (mI q6_) (mI q7_) (mA q8_)) (rec q0_ q1_ q2_ q3_ q4_ q5_ q6_ q7_ q8_)) {v_length : Int32} {v_length_j : Int} (t_v_length : mI v_length = v_length_j) {v_tape : (Nat → Int32)} {v_tape_j : (Nat → Int)} (t_v_tape : mA v_tape = v_tape_j) {v_at : Int32} {v_at_j : Int} (t_v_at : mI v_at = v_at_j) {v_fault : Int32} {v_fault_j : Int} (t_v_fault : mI v_fault = v_fault_j) {v_faultAt : Int32} {v_faultAt_j : Int} (t_v_faultAt : mI v_faultAt = v_faultAt_j) {v_kind : Int32} {v_kind_j : Int} (t_v_kind : mI v_kind = v_kind_j) {v_open : Int32} {v_open_j : Int} (t_v_open : mI v_open = v_open_j) {v_size : Int32} {v_size_j : Int} (t_v_size : mI v_size = v_size_j) {v_stop : Int32} {v_stop_j : Int} (t_v_stop : mI v_stop = v_stop_j) {v_code : (Nat → Int32)} {v_code_j : (Nat → Int)} (t_v_code : mA v_code = v_code_j) : tl (mP mI (mP mI (mP mI (mP mI (mP mI (mP mI (mP mI (mP mI mA)))))))) (iReader_readPart_G N_j rec_j v_length_j v_tape_j v_at_j v_fault_j v_faultAt_j v_kind_j v_open_j v_size_j v_stop_j v_code_j) (pReader_readPart_G N rec v_length v_tape v_at v_fault v_faultAt v_kind v_open v_size v_stop v_code) := by
  subst t_N
  subst t_v_length
  subst t_v_tape
  subst t_v_at
  subst t_v_fault
  subst t_v_faultAt
  subst t_v_kind
  subst t_v_open
  subst t_v_size
  subst t_v_stop
  subst t_v_code
  unfold iReader_readPart_G pReader_readPart_G
  refine tl_ite (jc_eq (Eq.refl (mI v_kind)) jlitI_2) ?_ ?_
  · refine tl_bd6 (t_pReader_readNumber (Eq.refl N) jlitI_0 jlitI_99999 (Eq.refl (mI v_at)) (Eq.refl (mI v_fault)) (Eq.refl (mI v_faultAt)) (Eq.refl (mI v_kind)) (Eq.refl (mI v_length)) (Eq.refl (mI v_stop)) (Eq.refl (mA v_tape))) (fun rc16 v_at_c16 v_fault_c16 v_faultAt_c16 v_kind_c16 v_stop_c16 => ?_)
    refine tl_ite (jc_eq (Eq.refl (mI rc16)) jlitI_m1) ?_ ?_
    · exact (tl_some (jp2 jlitI_0 (jp2 (Eq.refl (mI v_at_c16)) (jp2 (Eq.refl (mI v_fault_c16)) (jp2 (Eq.refl (mI v_faultAt_c16)) (jp2 (Eq.refl (mI v_kind_c16)) (jp2 (Eq.refl (mI v_open)) (jp2 (Eq.refl (mI v_size)) (jp2 (Eq.refl (mI v_stop_c16)) (Eq.refl (mA v_code)))))))))))
    · refine tl_bd4 (t_pReader_takeUnit (Eq.refl N) (Eq.refl (mI v_at_c16)) (Eq.refl (mI v_kind_c16)) (Eq.refl (mI v_length)) (Eq.refl (mI v_stop_c16)) (Eq.refl (mA v_tape))) (fun rc17 v_at_c17 v_kind_c17 v_stop_c17 => ?_)
      refine tl_g (fun h1 => ?_)
      refine tl_bd5 (t_pReader_emit (ja_mul (Eq.refl (mI rc16)) (Eq.refl (mI rc17)) h1) (Eq.refl (mI v_at_c17)) (Eq.refl (mI v_fault_c16)) (Eq.refl (mI v_faultAt_c16)) (Eq.refl (mI v_size)) (Eq.refl (mA v_code))) (fun rc18 v_fault_c18 v_faultAt_c18 v_size_c18 v_code_c18 => ?_)
      refine tl_ite (jc_eq (Eq.refl (mI rc18)) jlitI_0) ?_ ?_
      · exact (tl_some (jp2 jlitI_0 (jp2 (Eq.refl (mI v_at_c17)) (jp2 (Eq.refl (mI v_fault_c18)) (jp2 (Eq.refl (mI v_faultAt_c18)) (jp2 (Eq.refl (mI v_kind_c17)) (jp2 (Eq.refl (mI v_open)) (jp2 (Eq.refl (mI v_size_c18)) (jp2 (Eq.refl (mI v_stop_c17)) (Eq.refl (mA v_code_c18)))))))))))
      · exact (tl_some (jp2 jlitI_1 (jp2 (Eq.refl (mI v_at_c17)) (jp2 (Eq.refl (mI v_fault_c18)) (jp2 (Eq.refl (mI v_faultAt_c18)) (jp2 (Eq.refl (mI v_kind_c17)) (jp2 (Eq.refl (mI v_open)) (jp2 (Eq.refl (mI v_size_c18)) (jp2 (Eq.refl (mI v_stop_c17)) (Eq.refl (mA v_code_c18)))))))))))
  · refine tl_bd4 (t_pReader_takeMark (Eq.refl N) jlitI_40 (Eq.refl (mI v_at)) (Eq.refl (mI v_kind)) (Eq.refl (mI v_length)) (Eq.refl (mI v_stop)) (Eq.refl (mA v_tape))) (fun rc1 v_at_c1 v_kind_c1 v_stop_c1 => ?_)
    refine tl_ite (jc_eq (Eq.refl (mI rc1)) jlitI_0) ?_ ?_
    · refine tl_bd4 (t_pReader_takeWord (Eq.refl N) (Eq.refl _) (Eq.refl (mI v_at_c1)) (Eq.refl (mI v_kind_c1)) (Eq.refl (mI v_length)) (Eq.refl (mI v_stop_c1)) (Eq.refl (mA v_tape))) (fun rc2 v_at_c2 v_kind_c2 v_stop_c2 => ?_)
      refine tl_ite (jc_eq (Eq.refl (mI rc2)) jlitI_0) ?_ ?_
      · refine tl_bd4 (t_pReader_takeWord (Eq.refl N) (Eq.refl _) (Eq.refl (mI v_at_c2)) (Eq.refl (mI v_kind_c2)) (Eq.refl (mI v_length)) (Eq.refl (mI v_stop_c2)) (Eq.refl (mA v_tape))) (fun rc3 v_at_c3 v_kind_c3 v_stop_c3 => ?_)
        refine tl_ite (jc_eq (Eq.refl (mI rc3)) jlitI_0) ?_ ?_
        · refine tl_bd4 (t_pReader_takeWord (Eq.refl N) (Eq.refl _) (Eq.refl (mI v_at_c3)) (Eq.refl (mI v_kind_c3)) (Eq.refl (mI v_length)) (Eq.refl (mI v_stop_c3)) (Eq.refl (mA v_tape))) (fun rc4 v_at_c4 v_kind_c4 v_stop_c4 => ?_)
          refine tl_ite (jc_eq (Eq.refl (mI rc4)) jlitI_0) ?_ ?_
          · refine tl_bd4 (t_pReader_takeWord (Eq.refl N) (Eq.refl _) (Eq.refl (mI v_at_c4)) (Eq.refl (mI v_kind_c4)) (Eq.refl (mI v_length)) (Eq.refl (mI v_stop_c4)) (Eq.refl (mA v_tape))) (fun rc5 v_at_c5 v_kind_c5 v_stop_c5 => ?_)
            refine tl_ite (jc_eq (Eq.refl (mI rc5)) jlitI_0) ?_ ?_
            · refine tl_bd4 (t_pReader_takeWord (Eq.refl N) (Eq.refl _) (Eq.refl (mI v_at_c5)) (Eq.refl (mI v_kind_c5)) (Eq.refl (mI v_length)) (Eq.refl (mI v_stop_c5)) (Eq.refl (mA v_tape))) (fun rc6 v_at_c6 v_kind_c6 v_stop_c6 => ?_)
              refine tl_ite (jc_eq (Eq.refl (mI rc6)) jlitI_0) ?_ ?_
              · refine tl_bd4 (t_pReader_takeWord (Eq.refl N) (Eq.refl _) (Eq.refl (mI v_at_c6)) (Eq.refl (mI v_kind_c6)) (Eq.refl (mI v_length)) (Eq.refl (mI v_stop_c6)) (Eq.refl (mA v_tape))) (fun rc7 v_at_c7 v_kind_c7 v_stop_c7 => ?_)
                refine tl_ite (jc_eq (Eq.refl (mI rc7)) jlitI_0) ?_ ?_
                · exact (t_pReader_readPart_b209 (Eq.refl N) t_rec (Eq.refl (mI v_length)) (Eq.refl (mA v_tape)) jlitI_0 (Eq.refl (mI v_at_c7)) (Eq.refl (mI v_fault)) (Eq.refl (mI v_faultAt)) (Eq.refl (mI v_kind_c7)) (Eq.refl (mI v_open)) (Eq.refl (mI v_size)) (Eq.refl (mI v_stop_c7)) (Eq.refl (mA v_code)))
                · exact (t_pReader_readPart_b209 (Eq.refl N) t_rec (Eq.refl (mI v_length)) (Eq.refl (mA v_tape)) jlitI_m4 (Eq.refl (mI v_at_c7)) (Eq.refl (mI v_fault)) (Eq.refl (mI v_faultAt)) (Eq.refl (mI v_kind_c7)) (Eq.refl (mI v_open)) (Eq.refl (mI v_size)) (Eq.refl (mI v_stop_c7)) (Eq.refl (mA v_code)))
              · exact (t_pReader_readPart_b209 (Eq.refl N) t_rec (Eq.refl (mI v_length)) (Eq.refl (mA v_tape)) jlitI_m3 (Eq.refl (mI v_at_c6)) (Eq.refl (mI v_fault)) (Eq.refl (mI v_faultAt)) (Eq.refl (mI v_kind_c6)) (Eq.refl (mI v_open)) (Eq.refl (mI v_size)) (Eq.refl (mI v_stop_c6)) (Eq.refl (mA v_code)))
            · exact (t_pReader_readPart_b209 (Eq.refl N) t_rec (Eq.refl (mI v_length)) (Eq.refl (mA v_tape)) jlitI_m2 (Eq.refl (mI v_at_c5)) (Eq.refl (mI v_fault)) (Eq.refl (mI v_faultAt)) (Eq.refl (mI v_kind_c5)) (Eq.refl (mI v_open)) (Eq.refl (mI v_size)) (Eq.refl (mI v_stop_c5)) (Eq.refl (mA v_code)))
          · exact (t_pReader_readPart_b209 (Eq.refl N) t_rec (Eq.refl (mI v_length)) (Eq.refl (mA v_tape)) jlitI_m1 (Eq.refl (mI v_at_c4)) (Eq.refl (mI v_fault)) (Eq.refl (mI v_faultAt)) (Eq.refl (mI v_kind_c4)) (Eq.refl (mI v_open)) (Eq.refl (mI v_size)) (Eq.refl (mI v_stop_c4)) (Eq.refl (mA v_code)))
        · refine tl_bd9 (tl_e8 (f2 := rec_j 3) (Eq.refl (mI v_at_c3)) (Eq.refl (mI v_fault)) (Eq.refl (mI v_faultAt)) (Eq.refl (mI v_kind_c3)) (Eq.refl (mI v_open)) (Eq.refl (mI v_size)) (Eq.refl (mI v_stop_c3)) (Eq.refl (mA v_code)) (t_rec 3 _ _ _ _ _ _ _ _)) (fun rc8 v_at_c8 v_fault_c8 v_faultAt_c8 v_kind_c8 v_open_c8 v_size_c8 v_stop_c8 v_code_c8 => ?_)
          refine tl_ite (jc_eq (Eq.refl (mI rc8)) jlitI_0) ?_ ?_
          · exact (tl_some (jp2 jlitI_0 (jp2 (Eq.refl (mI v_at_c8)) (jp2 (Eq.refl (mI v_fault_c8)) (jp2 (Eq.refl (mI v_faultAt_c8)) (jp2 (Eq.refl (mI v_kind_c8)) (jp2 (Eq.refl (mI v_open_c8)) (jp2 (Eq.refl (mI v_size_c8)) (jp2 (Eq.refl (mI v_stop_c8)) (Eq.refl (mA v_code_c8)))))))))))
          · refine tl_bd5 (t_pReader_emit jlitI_m12 (Eq.refl (mI v_at_c8)) (Eq.refl (mI v_fault_c8)) (Eq.refl (mI v_faultAt_c8)) (Eq.refl (mI v_size_c8)) (Eq.refl (mA v_code_c8))) (fun rc9 v_fault_c9 v_faultAt_c9 v_size_c9 v_code_c9 => ?_)
            refine tl_ite (jc_eq (Eq.refl (mI rc9)) jlitI_0) ?_ ?_
            · exact (tl_some (jp2 jlitI_0 (jp2 (Eq.refl (mI v_at_c8)) (jp2 (Eq.refl (mI v_fault_c9)) (jp2 (Eq.refl (mI v_faultAt_c9)) (jp2 (Eq.refl (mI v_kind_c8)) (jp2 (Eq.refl (mI v_open_c8)) (jp2 (Eq.refl (mI v_size_c9)) (jp2 (Eq.refl (mI v_stop_c8)) (Eq.refl (mA v_code_c9)))))))))))
            · exact (tl_some (jp2 jlitI_1 (jp2 (Eq.refl (mI v_at_c8)) (jp2 (Eq.refl (mI v_fault_c9)) (jp2 (Eq.refl (mI v_faultAt_c9)) (jp2 (Eq.refl (mI v_kind_c8)) (jp2 (Eq.refl (mI v_open_c8)) (jp2 (Eq.refl (mI v_size_c9)) (jp2 (Eq.refl (mI v_stop_c8)) (Eq.refl (mA v_code_c9)))))))))))
      · refine tl_bd9 (tl_e8 (f2 := rec_j 3) (Eq.refl (mI v_at_c2)) (Eq.refl (mI v_fault)) (Eq.refl (mI v_faultAt)) (Eq.refl (mI v_kind_c2)) (Eq.refl (mI v_open)) (Eq.refl (mI v_size)) (Eq.refl (mI v_stop_c2)) (Eq.refl (mA v_code)) (t_rec 3 _ _ _ _ _ _ _ _)) (fun rc10 v_at_c10 v_fault_c10 v_faultAt_c10 v_kind_c10 v_open_c10 v_size_c10 v_stop_c10 v_code_c10 => ?_)
        refine tl_ite (jc_eq (Eq.refl (mI rc10)) jlitI_0) ?_ ?_
        · exact (tl_some (jp2 jlitI_0 (jp2 (Eq.refl (mI v_at_c10)) (jp2 (Eq.refl (mI v_fault_c10)) (jp2 (Eq.refl (mI v_faultAt_c10)) (jp2 (Eq.refl (mI v_kind_c10)) (jp2 (Eq.refl (mI v_open_c10)) (jp2 (Eq.refl (mI v_size_c10)) (jp2 (Eq.refl (mI v_stop_c10)) (Eq.refl (mA v_code_c10)))))))))))
        · refine tl_bd5 (t_pReader_emit jlitI_m11 (Eq.refl (mI v_at_c10)) (Eq.refl (mI v_fault_c10)) (Eq.refl (mI v_faultAt_c10)) (Eq.refl (mI v_size_c10)) (Eq.refl (mA v_code_c10))) (fun rc11 v_fault_c11 v_faultAt_c11 v_size_c11 v_code_c11 => ?_)
          refine tl_ite (jc_eq (Eq.refl (mI rc11)) jlitI_0) ?_ ?_
          · exact (tl_some (jp2 jlitI_0 (jp2 (Eq.refl (mI v_at_c10)) (jp2 (Eq.refl (mI v_fault_c11)) (jp2 (Eq.refl (mI v_faultAt_c11)) (jp2 (Eq.refl (mI v_kind_c10)) (jp2 (Eq.refl (mI v_open_c10)) (jp2 (Eq.refl (mI v_size_c11)) (jp2 (Eq.refl (mI v_stop_c10)) (Eq.refl (mA v_code_c11)))))))))))
          · exact (tl_some (jp2 jlitI_1 (jp2 (Eq.refl (mI v_at_c10)) (jp2 (Eq.refl (mI v_fault_c11)) (jp2 (Eq.refl (mI v_faultAt_c11)) (jp2 (Eq.refl (mI v_kind_c10)) (jp2 (Eq.refl (mI v_open_c10)) (jp2 (Eq.refl (mI v_size_c11)) (jp2 (Eq.refl (mI v_stop_c10)) (Eq.refl (mA v_code_c11)))))))))))
    · refine tl_bd4 (t_pReader_opens (Eq.refl (mI v_at)) (Eq.refl (mI v_fault)) (Eq.refl (mI v_faultAt)) (Eq.refl (mI v_open))) (fun rc12 v_fault_c12 v_faultAt_c12 v_open_c12 => ?_)
      refine tl_ite (jc_eq (Eq.refl (mI rc12)) jlitI_0) ?_ ?_
      · exact (tl_some (jp2 jlitI_0 (jp2 (Eq.refl (mI v_at_c1)) (jp2 (Eq.refl (mI v_fault_c12)) (jp2 (Eq.refl (mI v_faultAt_c12)) (jp2 (Eq.refl (mI v_kind_c1)) (jp2 (Eq.refl (mI v_open_c12)) (jp2 (Eq.refl (mI v_size)) (jp2 (Eq.refl (mI v_stop_c1)) (Eq.refl (mA v_code)))))))))))
      · refine tl_bd9 (tl_e8 (f2 := rec_j 2) (Eq.refl (mI v_at_c1)) (Eq.refl (mI v_fault_c12)) (Eq.refl (mI v_faultAt_c12)) (Eq.refl (mI v_kind_c1)) (Eq.refl (mI v_open_c12)) (Eq.refl (mI v_size)) (Eq.refl (mI v_stop_c1)) (Eq.refl (mA v_code)) (t_rec 2 _ _ _ _ _ _ _ _)) (fun rc13 v_at_c13 v_fault_c13 v_faultAt_c13 v_kind_c13 v_open_c13 v_size_c13 v_stop_c13 v_code_c13 => ?_)
        refine tl_ite (jc_eq (Eq.refl (mI rc13)) jlitI_0) ?_ ?_
        · exact (tl_some (jp2 jlitI_0 (jp2 (Eq.refl (mI v_at_c13)) (jp2 (Eq.refl (mI v_fault_c13)) (jp2 (Eq.refl (mI v_faultAt_c13)) (jp2 (Eq.refl (mI v_kind_c13)) (jp2 (Eq.refl (mI v_open_c13)) (jp2 (Eq.refl (mI v_size_c13)) (jp2 (Eq.refl (mI v_stop_c13)) (Eq.refl (mA v_code_c13)))))))))))
        · refine tl_bd6 (t_pReader_needMark (Eq.refl N) jlitI_41 (Eq.refl (mI v_at_c13)) (Eq.refl (mI v_fault_c13)) (Eq.refl (mI v_faultAt_c13)) (Eq.refl (mI v_kind_c13)) (Eq.refl (mI v_length)) (Eq.refl (mI v_stop_c13)) (Eq.refl (mA v_tape))) (fun rc14 v_at_c14 v_fault_c14 v_faultAt_c14 v_kind_c14 v_stop_c14 => ?_)
          refine tl_ite (jc_eq (Eq.refl (mI rc14)) jlitI_0) ?_ ?_
          · exact (tl_some (jp2 jlitI_0 (jp2 (Eq.refl (mI v_at_c14)) (jp2 (Eq.refl (mI v_fault_c14)) (jp2 (Eq.refl (mI v_faultAt_c14)) (jp2 (Eq.refl (mI v_kind_c14)) (jp2 (Eq.refl (mI v_open_c13)) (jp2 (Eq.refl (mI v_size_c13)) (jp2 (Eq.refl (mI v_stop_c14)) (Eq.refl (mA v_code_c13)))))))))))
          · refine tl_bd2 (t_pReader_closes (Eq.refl (mI v_open_c13))) (fun rc15 v_open_c15 => ?_)
            refine tl_ite (jc_eq (Eq.refl (mI rc15)) jlitI_0) ?_ ?_
            · exact (tl_some (jp2 jlitI_0 (jp2 (Eq.refl (mI v_at_c14)) (jp2 (Eq.refl (mI v_fault_c14)) (jp2 (Eq.refl (mI v_faultAt_c14)) (jp2 (Eq.refl (mI v_kind_c14)) (jp2 (Eq.refl (mI v_open_c15)) (jp2 (Eq.refl (mI v_size_c13)) (jp2 (Eq.refl (mI v_stop_c14)) (Eq.refl (mA v_code_c13)))))))))))
            · exact (tl_some (jp2 jlitI_1 (jp2 (Eq.refl (mI v_at_c14)) (jp2 (Eq.refl (mI v_fault_c14)) (jp2 (Eq.refl (mI v_faultAt_c14)) (jp2 (Eq.refl (mI v_kind_c14)) (jp2 (Eq.refl (mI v_open_c15)) (jp2 (Eq.refl (mI v_size_c13)) (jp2 (Eq.refl (mI v_stop_c14)) (Eq.refl (mA v_code_c13)))))))))))
theorem t_pReader_readProduct_b47 {N N_j : Nat} (t_N : N = N_j) {rec : Nat → Int32 → Int32 → Int32 → Int32 → Int32 → Int32 → Int32 → (Nat → Int32) → Option R_pReader_readProduct} {rec_j : Nat → Int → Int → Int → Int → Int → Int → Int → (Nat → Int) → Option R_iReader_readProduct} (t_rec : ∀ (q0_ : Nat) (q1_ : Int32) (q2_ : Int32) (q3_ : Int32) (q4_ : Int32) (q5_ : Int32) (q6_ : Int32) (q7_ : Int32) (q8_ : (Nat → Int32)), tl (mP mI (mP mI (mP mI (mP mI (mP mI (mP mI (mP mI (mP mI mA)))))))) (rec_j q0_ (mI q1_) (mI q2_) (mI q3_) (mI q4_) (mI q5_) (mI q6_) (mI q7_) (mA q8_)) (rec q0_ q1_ q2_ q3_ q4_ q5_ q6_ q7_ q8_)) {v_length : Int32} {v_length_j : Int} (t_v_length : mI v_length = v_length_j) {v_tape : (Nat → Int32)} {v_tape_j : (Nat → Int)} (t_v_tape : mA v_tape = v_tape_j) {self : Int32 → Int32 → Int32 → Int32 → Int32 → Int32 → Int32 → Int32 → Int32 → (Nat → Int32) → Option R_pReader_readProduct} {self_j : Int → Int → Int → Int → Int → Int → Int → Int → Int → (Nat → Int) → Option R_iReader_readProduct} (t_self : ∀ (q0_ : Int32) (q1_ : Int32) (q2_ : Int32) (q3_ : Int32) (q4_ : Int32) (q5_ : Int32) (q6_ : Int32) (q7_ : Int32) (q8_ : Int32) (q9_ : (Nat → Int32)), tl (mP mI (mP mI (mP mI (mP mI (mP mI (mP mI (mP mI (mP mI mA)))))))) (self_j (mI q0_) (mI q1_) (mI q2_) (mI q3_) (mI q4_) (mI q5_) (mI q6_) (mI q7_) (mI q8_) (mA q9_)) (self q0_ q1_ q2_ q3_ q4_ q5_ q6_ q7_ q8_ q9_)) {x2 : Int32} {x2_j : Int} (t_x2 : mI x2 = x2_j) {s0 : Int32} {s0_j : Int} (t_s0 : mI s0 = s0_j) {v_at : Int32} {v_at_j : Int} (t_v_at : mI v_at = v_at_j) {v_fault : Int32} {v_fault_j : Int} (t_v_fault : mI v_fault = v_fault_j) {v_faultAt : Int32} {v_faultAt_j : Int} (t_v_faultAt : mI v_faultAt = v_faultAt_j) {v_kind : Int32} {v_kind_j : Int} (t_v_kind : mI v_kind = v_kind_j) {v_open : Int32} {v_open_j : Int} (t_v_open : mI v_open = v_open_j) {v_size : Int32} {v_size_j : Int} (t_v_size : mI v_size = v_size_j) {v_stop : Int32} {v_stop_j : Int} (t_v_stop : mI v_stop = v_stop_j) {v_code : (Nat → Int32)} {v_code_j : (Nat → Int)} (t_v_code : mA v_code = v_code_j) : tl (mP mI (mP mI (mP mI (mP mI (mP mI (mP mI (mP mI (mP mI mA)))))))) (iReader_readProduct_b47 N_j rec_j v_length_j v_tape_j self_j x2_j s0_j v_at_j v_fault_j v_faultAt_j v_kind_j v_open_j v_size_j v_stop_j v_code_j) (pReader_readProduct_b47 N rec v_length v_tape self x2 s0 v_at v_fault v_faultAt v_kind v_open v_size v_stop v_code) := by
  subst t_N
  subst t_v_length
  subst t_v_tape
  subst t_x2
  subst t_s0
  subst t_v_at
  subst t_v_fault
  subst t_v_faultAt
  subst t_v_kind
  subst t_v_open
  subst t_v_size
  subst t_v_stop
  subst t_v_code
  unfold iReader_readProduct_b47 pReader_readProduct_b47
  refine tl_ite (jc_eq (Eq.refl (mI s0)) jlitI_0) ?_ ?_
  · exact (tl_some (jp2 jlitI_1 (jp2 (Eq.refl (mI v_at)) (jp2 (Eq.refl (mI v_fault)) (jp2 (Eq.refl (mI v_faultAt)) (jp2 (Eq.refl (mI v_kind)) (jp2 (Eq.refl (mI v_open)) (jp2 (Eq.refl (mI v_size)) (jp2 (Eq.refl (mI v_stop)) (Eq.refl (mA v_code)))))))))))
  · refine tl_bd9 (tl_e8 (f2 := rec_j 0) (Eq.refl (mI v_at)) (Eq.refl (mI v_fault)) (Eq.refl (mI v_faultAt)) (Eq.refl (mI v_kind)) (Eq.refl (mI v_open)) (Eq.refl (mI v_size)) (Eq.refl (mI v_stop)) (Eq.refl (mA v_code)) (t_rec 0 _ _ _ _ _ _ _ _)) (fun rc4 v_at_c4 v_fault_c4 v_faultAt_c4 v_kind_c4 v_open_c4 v_size_c4 v_stop_c4 v_code_c4 => ?_)
    refine tl_ite (jc_eq (Eq.refl (mI rc4)) jlitI_0) ?_ ?_
    · refine tl_g (fun h1 => ?_)
      exact (tl_e10 jlitI_0 (ja_add (Eq.refl (mI x2)) jlitI_1 h1) (Eq.refl (mI v_at_c4)) (Eq.refl (mI v_fault_c4)) (Eq.refl (mI v_faultAt_c4)) (Eq.refl (mI v_kind_c4)) (Eq.refl (mI v_open_c4)) (Eq.refl (mI v_size_c4)) (Eq.refl (mI v_stop_c4)) (Eq.refl (mA v_code_c4)) (t_self _ _ _ _ _ _ _ _ _ _))
    · refine tl_bd5 (t_pReader_emit (Eq.refl (mI s0)) (Eq.refl (mI v_at_c4)) (Eq.refl (mI v_fault_c4)) (Eq.refl (mI v_faultAt_c4)) (Eq.refl (mI v_size_c4)) (Eq.refl (mA v_code_c4))) (fun rc5 v_fault_c5 v_faultAt_c5 v_size_c5 v_code_c5 => ?_)
      refine tl_ite (jc_eq (Eq.refl (mI rc5)) jlitI_0) ?_ ?_
      · refine tl_g (fun h2 => ?_)
        exact (tl_e10 jlitI_0 (ja_add (Eq.refl (mI x2)) jlitI_1 h2) (Eq.refl (mI v_at_c4)) (Eq.refl (mI v_fault_c5)) (Eq.refl (mI v_faultAt_c5)) (Eq.refl (mI v_kind_c4)) (Eq.refl (mI v_open_c4)) (Eq.refl (mI v_size_c5)) (Eq.refl (mI v_stop_c4)) (Eq.refl (mA v_code_c5)) (t_self _ _ _ _ _ _ _ _ _ _))
      · refine tl_g (fun h3 => ?_)
        exact (tl_e10 jlitI_1 (ja_add (Eq.refl (mI x2)) jlitI_1 h3) (Eq.refl (mI v_at_c4)) (Eq.refl (mI v_fault_c5)) (Eq.refl (mI v_faultAt_c5)) (Eq.refl (mI v_kind_c4)) (Eq.refl (mI v_open_c4)) (Eq.refl (mI v_size_c5)) (Eq.refl (mI v_stop_c4)) (Eq.refl (mA v_code_c5)) (t_self _ _ _ _ _ _ _ _ _ _))
theorem t_pReader_readProduct_b7_F {N N_j : Nat} (t_N : N = N_j) {rec : Nat → Int32 → Int32 → Int32 → Int32 → Int32 → Int32 → Int32 → (Nat → Int32) → Option R_pReader_readProduct} {rec_j : Nat → Int → Int → Int → Int → Int → Int → Int → (Nat → Int) → Option R_iReader_readProduct} (t_rec : ∀ (q0_ : Nat) (q1_ : Int32) (q2_ : Int32) (q3_ : Int32) (q4_ : Int32) (q5_ : Int32) (q6_ : Int32) (q7_ : Int32) (q8_ : (Nat → Int32)), tl (mP mI (mP mI (mP mI (mP mI (mP mI (mP mI (mP mI (mP mI mA)))))))) (rec_j q0_ (mI q1_) (mI q2_) (mI q3_) (mI q4_) (mI q5_) (mI q6_) (mI q7_) (mA q8_)) (rec q0_ q1_ q2_ q3_ q4_ q5_ q6_ q7_ q8_)) {v_length : Int32} {v_length_j : Int} (t_v_length : mI v_length = v_length_j) {v_tape : (Nat → Int32)} {v_tape_j : (Nat → Int)} (t_v_tape : mA v_tape = v_tape_j) {self : Int32 → Int32 → Int32 → Int32 → Int32 → Int32 → Int32 → Int32 → Int32 → (Nat → Int32) → Option R_pReader_readProduct} {self_j : Int → Int → Int → Int → Int → Int → Int → Int → Int → (Nat → Int) → Option R_iReader_readProduct} (t_self : ∀ (q0_ : Int32) (q1_ : Int32) (q2_ : Int32) (q3_ : Int32) (q4_ : Int32) (q5_ : Int32) (q6_ : Int32) (q7_ : Int32) (q8_ : Int32) (q9_ : (Nat → Int32)), tl (mP mI (mP mI (mP mI (mP mI (mP mI (mP mI (mP mI (mP mI mA)))))))) (self_j (mI q0_) (mI q1_) (mI q2_) (mI q3_) (mI q4_) (mI q5_) (mI q6_) (mI q7_) (mI q8_) (mA q9_)) (self q0_ q1_ q2_ q3_ q4_ q5_ q6_ q7_ q8_ q9_)) {x1 : Int32} {x1_j : Int} (t_x1 : mI x1 = x1_j) {x2 : Int32} {x2_j : Int} (t_x2 : mI x2 = x2_j) {v_at : Int32} {v_at_j : Int} (t_v_at : mI v_at = v_at_j) {v_fault : Int32} {v_fault_j : Int} (t_v_fault : mI v_fault = v_fault_j) {v_faultAt : Int32} {v_faultAt_j : Int} (t_v_faultAt : mI v_faultAt = v_faultAt_j) {v_kind : Int32} {v_kind_j : Int} (t_v_kind : mI v_kind = v_kind_j) {v_open : Int32} {v_open_j : Int} (t_v_open : mI v_open = v_open_j) {v_size : Int32} {v_size_j : Int} (t_v_size : mI v_size = v_size_j) {v_stop : Int32} {v_stop_j : Int} (t_v_stop : mI v_stop = v_stop_j) {v_code : (Nat → Int32)} {v_code_j : (Nat → Int)} (t_v_code : mA v_code = v_code_j) : tl (mP mI (mP mI (mP mI (mP mI (mP mI (mP mI (mP mI (mP mI mA)))))))) (iReader_readProduct_b7_F N_j rec_j v_length_j v_tape_j self_j x1_j x2_j v_at_j v_fault_j v_faultAt_j v_kind_j v_open_j v_size_j v_stop_j v_code_j) (pReader_readProduct_b7_F N rec v_length v_tape self x1 x2 v_at v_fault v_faultAt v_kind v_open v_size v_stop v_code) := by
  subst t_N
  subst t_v_length
  subst t_v_tape
  subst t_x1
  subst t_x2
  subst t_v_at
  subst t_v_fault
  subst t_v_faultAt
  subst t_v_kind
  subst t_v_open
  subst t_v_size
  subst t_v_stop
  subst t_v_code
  unfold iReader_readProduct_b7_F pReader_readProduct_b7_F
  refine tl_ite (jc_le jlitI_600 (Eq.refl (mI x2))) ?_ ?_
  · refine tl_gd (jg_isB (Eq.refl (mI x1))) (fun _ => ?_)
    exact (tl_some (jp2 (Eq.refl (mI x1)) (jp2 (Eq.refl (mI v_at)) (jp2 (Eq.refl (mI v_fault)) (jp2 (Eq.refl (mI v_faultAt)) (jp2 (Eq.refl (mI v_kind)) (jp2 (Eq.refl (mI v_open)) (jp2 (Eq.refl (mI v_size)) (jp2 (Eq.refl (mI v_stop)) (Eq.refl (mA v_code)))))))))))
  · refine tl_ite (jc_eq (Eq.refl (mI x1)) jlitI_0) ?_ ?_
    · refine tl_gd (jg_isB (Eq.refl (mI x1))) (fun _ => ?_)
      exact (tl_some (jp2 (Eq.refl (mI x1)) (jp2 (Eq.refl (mI v_at)) (jp2 (Eq.refl (mI v_fault)) (jp2 (Eq.refl (mI v_faultAt)) (jp2 (Eq.refl (mI v_kind)) (jp2 (Eq.refl (mI v_open)) (jp2 (Eq.refl (mI v_size)) (jp2 (Eq.refl (mI v_stop)) (Eq.refl (mA v_code)))))))))))
    · refine tl_bd4 (t_pReader_takeMark (Eq.refl N) jlitI_42 (Eq.refl (mI v_at)) (Eq.refl (mI v_kind)) (Eq.refl (mI v_length)) (Eq.refl (mI v_stop)) (Eq.refl (mA v_tape))) (fun rc2 v_at_c2 v_kind_c2 v_stop_c2 => ?_)
      refine tl_ite (jc_eq (Eq.refl (mI rc2)) jlitI_0) ?_ ?_
      · refine tl_bd4 (t_pReader_takeMark (Eq.refl N) jlitI_47 (Eq.refl (mI v_at_c2)) (Eq.refl (mI v_kind_c2)) (Eq.refl (mI v_length)) (Eq.refl (mI v_stop_c2)) (Eq.refl (mA v_tape))) (fun rc3 v_at_c3 v_kind_c3 v_stop_c3 => ?_)
        refine tl_ite (jc_eq (Eq.refl (mI rc3)) jlitI_0) ?_ ?_
        · exact (t_pReader_readProduct_b47 (Eq.refl N) t_rec (Eq.refl (mI v_length)) (Eq.refl (mA v_tape)) t_self (Eq.refl (mI x2)) jlitI_0 (Eq.refl (mI v_at_c3)) (Eq.refl (mI v_fault)) (Eq.refl (mI v_faultAt)) (Eq.refl (mI v_kind_c3)) (Eq.refl (mI v_open)) (Eq.refl (mI v_size)) (Eq.refl (mI v_stop_c3)) (Eq.refl (mA v_code)))
        · exact (t_pReader_readProduct_b47 (Eq.refl N) t_rec (Eq.refl (mI v_length)) (Eq.refl (mA v_tape)) t_self (Eq.refl (mI x2)) jlitI_m10 (Eq.refl (mI v_at_c3)) (Eq.refl (mI v_fault)) (Eq.refl (mI v_faultAt)) (Eq.refl (mI v_kind_c3)) (Eq.refl (mI v_open)) (Eq.refl (mI v_size)) (Eq.refl (mI v_stop_c3)) (Eq.refl (mA v_code)))
      · exact (t_pReader_readProduct_b47 (Eq.refl N) t_rec (Eq.refl (mI v_length)) (Eq.refl (mA v_tape)) t_self (Eq.refl (mI x2)) jlitI_m9 (Eq.refl (mI v_at_c2)) (Eq.refl (mI v_fault)) (Eq.refl (mI v_faultAt)) (Eq.refl (mI v_kind_c2)) (Eq.refl (mI v_open)) (Eq.refl (mI v_size)) (Eq.refl (mI v_stop_c2)) (Eq.refl (mA v_code)))
theorem t_pReader_readProduct_b7 {N N_j : Nat} (t_N : N = N_j) {rec : Nat → Int32 → Int32 → Int32 → Int32 → Int32 → Int32 → Int32 → (Nat → Int32) → Option R_pReader_readProduct} {rec_j : Nat → Int → Int → Int → Int → Int → Int → Int → (Nat → Int) → Option R_iReader_readProduct} (t_rec : ∀ (q0_ : Nat) (q1_ : Int32) (q2_ : Int32) (q3_ : Int32) (q4_ : Int32) (q5_ : Int32) (q6_ : Int32) (q7_ : Int32) (q8_ : (Nat → Int32)), tl (mP mI (mP mI (mP mI (mP mI (mP mI (mP mI (mP mI (mP mI mA)))))))) (rec_j q0_ (mI q1_) (mI q2_) (mI q3_) (mI q4_) (mI q5_) (mI q6_) (mI q7_) (mA q8_)) (rec q0_ q1_ q2_ q3_ q4_ q5_ q6_ q7_ q8_)) {v_length : Int32} {v_length_j : Int} (t_v_length : mI v_length = v_length_j) {v_tape : (Nat → Int32)} {v_tape_j : (Nat → Int)} (t_v_tape : mA v_tape = v_tape_j) {n n_j : Nat} (t_n : n = n_j) {w0_ : Int32} {w0__j : Int} (t_w0_ : mI w0_ = w0__j) {w1_ : Int32} {w1__j : Int} (t_w1_ : mI w1_ = w1__j) {w2_ : Int32} {w2__j : Int} (t_w2_ : mI w2_ = w2__j) {w3_ : Int32} {w3__j : Int} (t_w3_ : mI w3_ = w3__j) {w4_ : Int32} {w4__j : Int} (t_w4_ : mI w4_ = w4__j) {w5_ : Int32} {w5__j : Int} (t_w5_ : mI w5_ = w5__j) {w6_ : Int32} {w6__j : Int} (t_w6_ : mI w6_ = w6__j) {w7_ : Int32} {w7__j : Int} (t_w7_ : mI w7_ = w7__j) {w8_ : Int32} {w8__j : Int} (t_w8_ : mI w8_ = w8__j) {w9_ : (Nat → Int32)} {w9__j : (Nat → Int)} (t_w9_ : mA w9_ = w9__j) : tl (mP mI (mP mI (mP mI (mP mI (mP mI (mP mI (mP mI (mP mI mA)))))))) (iReader_readProduct_b7 N_j rec_j v_length_j v_tape_j n_j w0__j w1__j w2__j w3__j w4__j w5__j w6__j w7__j w8__j w9__j) (pReader_readProduct_b7 N rec v_length v_tape n w0_ w1_ w2_ w3_ w4_ w5_ w6_ w7_ w8_ w9_) := by
  subst t_N
  subst t_v_length
  subst t_v_tape
  subst t_n
  subst t_w0_
  subst t_w1_
  subst t_w2_
  subst t_w3_
  subst t_w4_
  subst t_w5_
  subst t_w6_
  subst t_w7_
  subst t_w8_
  subst t_w9_
  exact tl_zlp10 (fun s2 s hs w0_ w1_ w2_ w3_ w4_ w5_ w6_ w7_ w8_ w9_ => t_pReader_readProduct_b7_F (Eq.refl N) t_rec (Eq.refl (mI v_length)) (Eq.refl (mA v_tape)) hs (Eq.refl (mI w0_)) (Eq.refl (mI w1_)) (Eq.refl (mI w2_)) (Eq.refl (mI w3_)) (Eq.refl (mI w4_)) (Eq.refl (mI w5_)) (Eq.refl (mI w6_)) (Eq.refl (mI w7_)) (Eq.refl (mI w8_)) (Eq.refl (mA w9_))) n w0_ w1_ w2_ w3_ w4_ w5_ w6_ w7_ w8_ w9_
theorem t_pReader_readProduct_G {N N_j : Nat} (t_N : N = N_j) {rec : Nat → Int32 → Int32 → Int32 → Int32 → Int32 → Int32 → Int32 → (Nat → Int32) → Option R_pReader_readProduct} {rec_j : Nat → Int → Int → Int → Int → Int → Int → Int → (Nat → Int) → Option R_iReader_readProduct} (t_rec : ∀ (q0_ : Nat) (q1_ : Int32) (q2_ : Int32) (q3_ : Int32) (q4_ : Int32) (q5_ : Int32) (q6_ : Int32) (q7_ : Int32) (q8_ : (Nat → Int32)), tl (mP mI (mP mI (mP mI (mP mI (mP mI (mP mI (mP mI (mP mI mA)))))))) (rec_j q0_ (mI q1_) (mI q2_) (mI q3_) (mI q4_) (mI q5_) (mI q6_) (mI q7_) (mA q8_)) (rec q0_ q1_ q2_ q3_ q4_ q5_ q6_ q7_ q8_)) {v_length : Int32} {v_length_j : Int} (t_v_length : mI v_length = v_length_j) {v_tape : (Nat → Int32)} {v_tape_j : (Nat → Int)} (t_v_tape : mA v_tape = v_tape_j) {v_at : Int32} {v_at_j : Int} (t_v_at : mI v_at = v_at_j) {v_fault : Int32} {v_fault_j : Int} (t_v_fault : mI v_fault = v_fault_j) {v_faultAt : Int32} {v_faultAt_j : Int} (t_v_faultAt : mI v_faultAt = v_faultAt_j) {v_kind : Int32} {v_kind_j : Int} (t_v_kind : mI v_kind = v_kind_j) {v_open : Int32} {v_open_j : Int} (t_v_open : mI v_open = v_open_j) {v_size : Int32} {v_size_j : Int} (t_v_size : mI v_size = v_size_j) {v_stop : Int32} {v_stop_j : Int} (t_v_stop : mI v_stop = v_stop_j) {v_code : (Nat → Int32)} {v_code_j : (Nat → Int)} (t_v_code : mA v_code = v_code_j) : tl (mP mI (mP mI (mP mI (mP mI (mP mI (mP mI (mP mI (mP mI mA)))))))) (iReader_readProduct_G N_j rec_j v_length_j v_tape_j v_at_j v_fault_j v_faultAt_j v_kind_j v_open_j v_size_j v_stop_j v_code_j) (pReader_readProduct_G N rec v_length v_tape v_at v_fault v_faultAt v_kind v_open v_size v_stop v_code) := by
  subst t_N
  subst t_v_length
  subst t_v_tape
  subst t_v_at
  subst t_v_fault
  subst t_v_faultAt
  subst t_v_kind
  subst t_v_open
  subst t_v_size
  subst t_v_stop
  subst t_v_code
  unfold iReader_readProduct_G pReader_readProduct_G
  refine tl_bd9 (tl_e8 (f2 := rec_j 0) (Eq.refl (mI v_at)) (Eq.refl (mI v_fault)) (Eq.refl (mI v_faultAt)) (Eq.refl (mI v_kind)) (Eq.refl (mI v_open)) (Eq.refl (mI v_size)) (Eq.refl (mI v_stop)) (Eq.refl (mA v_code)) (t_rec 0 _ _ _ _ _ _ _ _)) (fun rc1 v_at_c1 v_fault_c1 v_faultAt_c1 v_kind_c1 v_open_c1 v_size_c1 v_stop_c1 v_code_c1 => ?_)
  exact (t_pReader_readProduct_b7 (Eq.refl N) t_rec (Eq.refl (mI v_length)) (Eq.refl (mA v_tape)) (Eq.refl N) (Eq.refl (mI rc1)) jlitI_0 (Eq.refl (mI v_at_c1)) (Eq.refl (mI v_fault_c1)) (Eq.refl (mI v_faultAt_c1)) (Eq.refl (mI v_kind_c1)) (Eq.refl (mI v_open_c1)) (Eq.refl (mI v_size_c1)) (Eq.refl (mI v_stop_c1)) (Eq.refl (mA v_code_c1)))
theorem t_pReader_readSum_b47 {N N_j : Nat} (t_N : N = N_j) {rec : Nat → Int32 → Int32 → Int32 → Int32 → Int32 → Int32 → Int32 → (Nat → Int32) → Option R_pReader_readSum} {rec_j : Nat → Int → Int → Int → Int → Int → Int → Int → (Nat → Int) → Option R_iReader_readSum} (t_rec : ∀ (q0_ : Nat) (q1_ : Int32) (q2_ : Int32) (q3_ : Int32) (q4_ : Int32) (q5_ : Int32) (q6_ : Int32) (q7_ : Int32) (q8_ : (Nat → Int32)), tl (mP mI (mP mI (mP mI (mP mI (mP mI (mP mI (mP mI (mP mI mA)))))))) (rec_j q0_ (mI q1_) (mI q2_) (mI q3_) (mI q4_) (mI q5_) (mI q6_) (mI q7_) (mA q8_)) (rec q0_ q1_ q2_ q3_ q4_ q5_ q6_ q7_ q8_)) {v_length : Int32} {v_length_j : Int} (t_v_length : mI v_length = v_length_j) {v_tape : (Nat → Int32)} {v_tape_j : (Nat → Int)} (t_v_tape : mA v_tape = v_tape_j) {self : Int32 → Int32 → Int32 → Int32 → Int32 → Int32 → Int32 → Int32 → Int32 → (Nat → Int32) → Option R_pReader_readSum} {self_j : Int → Int → Int → Int → Int → Int → Int → Int → Int → (Nat → Int) → Option R_iReader_readSum} (t_self : ∀ (q0_ : Int32) (q1_ : Int32) (q2_ : Int32) (q3_ : Int32) (q4_ : Int32) (q5_ : Int32) (q6_ : Int32) (q7_ : Int32) (q8_ : Int32) (q9_ : (Nat → Int32)), tl (mP mI (mP mI (mP mI (mP mI (mP mI (mP mI (mP mI (mP mI mA)))))))) (self_j (mI q0_) (mI q1_) (mI q2_) (mI q3_) (mI q4_) (mI q5_) (mI q6_) (mI q7_) (mI q8_) (mA q9_)) (self q0_ q1_ q2_ q3_ q4_ q5_ q6_ q7_ q8_ q9_)) {x2 : Int32} {x2_j : Int} (t_x2 : mI x2 = x2_j) {s0 : Int32} {s0_j : Int} (t_s0 : mI s0 = s0_j) {v_at : Int32} {v_at_j : Int} (t_v_at : mI v_at = v_at_j) {v_fault : Int32} {v_fault_j : Int} (t_v_fault : mI v_fault = v_fault_j) {v_faultAt : Int32} {v_faultAt_j : Int} (t_v_faultAt : mI v_faultAt = v_faultAt_j) {v_kind : Int32} {v_kind_j : Int} (t_v_kind : mI v_kind = v_kind_j) {v_open : Int32} {v_open_j : Int} (t_v_open : mI v_open = v_open_j) {v_size : Int32} {v_size_j : Int} (t_v_size : mI v_size = v_size_j) {v_stop : Int32} {v_stop_j : Int} (t_v_stop : mI v_stop = v_stop_j) {v_code : (Nat → Int32)} {v_code_j : (Nat → Int)} (t_v_code : mA v_code = v_code_j) : tl (mP mI (mP mI (mP mI (mP mI (mP mI (mP mI (mP mI (mP mI mA)))))))) (iReader_readSum_b47 N_j rec_j v_length_j v_tape_j self_j x2_j s0_j v_at_j v_fault_j v_faultAt_j v_kind_j v_open_j v_size_j v_stop_j v_code_j) (pReader_readSum_b47 N rec v_length v_tape self x2 s0 v_at v_fault v_faultAt v_kind v_open v_size v_stop v_code) := by
  subst t_N
  subst t_v_length
  subst t_v_tape
  subst t_x2
  subst t_s0
  subst t_v_at
  subst t_v_fault
  subst t_v_faultAt
  subst t_v_kind
  subst t_v_open
  subst t_v_size
  subst t_v_stop
  subst t_v_code
  unfold iReader_readSum_b47 pReader_readSum_b47
  refine tl_ite (jc_eq (Eq.refl (mI s0)) jlitI_0) ?_ ?_
  · exact (tl_some (jp2 jlitI_1 (jp2 (Eq.refl (mI v_at)) (jp2 (Eq.refl (mI v_fault)) (jp2 (Eq.refl (mI v_faultAt)) (jp2 (Eq.refl (mI v_kind)) (jp2 (Eq.refl (mI v_open)) (jp2 (Eq.refl (mI v_size)) (jp2 (Eq.refl (mI v_stop)) (Eq.refl (mA v_code)))))))))))
  · refine tl_bd9 (tl_e8 (f2 := rec_j 1) (Eq.refl (mI v_at)) (Eq.refl (mI v_fault)) (Eq.refl (mI v_faultAt)) (Eq.refl (mI v_kind)) (Eq.refl (mI v_open)) (Eq.refl (mI v_size)) (Eq.refl (mI v_stop)) (Eq.refl (mA v_code)) (t_rec 1 _ _ _ _ _ _ _ _)) (fun rc4 v_at_c4 v_fault_c4 v_faultAt_c4 v_kind_c4 v_open_c4 v_size_c4 v_stop_c4 v_code_c4 => ?_)
    refine tl_ite (jc_eq (Eq.refl (mI rc4)) jlitI_0) ?_ ?_
    · refine tl_g (fun h1 => ?_)
      exact (tl_e10 jlitI_0 (ja_add (Eq.refl (mI x2)) jlitI_1 h1) (Eq.refl (mI v_at_c4)) (Eq.refl (mI v_fault_c4)) (Eq.refl (mI v_faultAt_c4)) (Eq.refl (mI v_kind_c4)) (Eq.refl (mI v_open_c4)) (Eq.refl (mI v_size_c4)) (Eq.refl (mI v_stop_c4)) (Eq.refl (mA v_code_c4)) (t_self _ _ _ _ _ _ _ _ _ _))
    · refine tl_bd5 (t_pReader_emit (Eq.refl (mI s0)) (Eq.refl (mI v_at_c4)) (Eq.refl (mI v_fault_c4)) (Eq.refl (mI v_faultAt_c4)) (Eq.refl (mI v_size_c4)) (Eq.refl (mA v_code_c4))) (fun rc5 v_fault_c5 v_faultAt_c5 v_size_c5 v_code_c5 => ?_)
      refine tl_ite (jc_eq (Eq.refl (mI rc5)) jlitI_0) ?_ ?_
      · refine tl_g (fun h2 => ?_)
        exact (tl_e10 jlitI_0 (ja_add (Eq.refl (mI x2)) jlitI_1 h2) (Eq.refl (mI v_at_c4)) (Eq.refl (mI v_fault_c5)) (Eq.refl (mI v_faultAt_c5)) (Eq.refl (mI v_kind_c4)) (Eq.refl (mI v_open_c4)) (Eq.refl (mI v_size_c5)) (Eq.refl (mI v_stop_c4)) (Eq.refl (mA v_code_c5)) (t_self _ _ _ _ _ _ _ _ _ _))
      · refine tl_g (fun h3 => ?_)
        exact (tl_e10 jlitI_1 (ja_add (Eq.refl (mI x2)) jlitI_1 h3) (Eq.refl (mI v_at_c4)) (Eq.refl (mI v_fault_c5)) (Eq.refl (mI v_faultAt_c5)) (Eq.refl (mI v_kind_c4)) (Eq.refl (mI v_open_c4)) (Eq.refl (mI v_size_c5)) (Eq.refl (mI v_stop_c4)) (Eq.refl (mA v_code_c5)) (t_self _ _ _ _ _ _ _ _ _ _))
theorem t_pReader_readSum_b7_F {N N_j : Nat} (t_N : N = N_j) {rec : Nat → Int32 → Int32 → Int32 → Int32 → Int32 → Int32 → Int32 → (Nat → Int32) → Option R_pReader_readSum} {rec_j : Nat → Int → Int → Int → Int → Int → Int → Int → (Nat → Int) → Option R_iReader_readSum} (t_rec : ∀ (q0_ : Nat) (q1_ : Int32) (q2_ : Int32) (q3_ : Int32) (q4_ : Int32) (q5_ : Int32) (q6_ : Int32) (q7_ : Int32) (q8_ : (Nat → Int32)), tl (mP mI (mP mI (mP mI (mP mI (mP mI (mP mI (mP mI (mP mI mA)))))))) (rec_j q0_ (mI q1_) (mI q2_) (mI q3_) (mI q4_) (mI q5_) (mI q6_) (mI q7_) (mA q8_)) (rec q0_ q1_ q2_ q3_ q4_ q5_ q6_ q7_ q8_)) {v_length : Int32} {v_length_j : Int} (t_v_length : mI v_length = v_length_j) {v_tape : (Nat → Int32)} {v_tape_j : (Nat → Int)} (t_v_tape : mA v_tape = v_tape_j) {self : Int32 → Int32 → Int32 → Int32 → Int32 → Int32 → Int32 → Int32 → Int32 → (Nat → Int32) → Option R_pReader_readSum} {self_j : Int → Int → Int → Int → Int → Int → Int → Int → Int → (Nat → Int) → Option R_iReader_readSum} (t_self : ∀ (q0_ : Int32) (q1_ : Int32) (q2_ : Int32) (q3_ : Int32) (q4_ : Int32) (q5_ : Int32) (q6_ : Int32) (q7_ : Int32) (q8_ : Int32) (q9_ : (Nat → Int32)), tl (mP mI (mP mI (mP mI (mP mI (mP mI (mP mI (mP mI (mP mI mA)))))))) (self_j (mI q0_) (mI q1_) (mI q2_) (mI q3_) (mI q4_) (mI q5_) (mI q6_) (mI q7_) (mI q8_) (mA q9_)) (self q0_ q1_ q2_ q3_ q4_ q5_ q6_ q7_ q8_ q9_)) {x1 : Int32} {x1_j : Int} (t_x1 : mI x1 = x1_j) {x2 : Int32} {x2_j : Int} (t_x2 : mI x2 = x2_j) {v_at : Int32} {v_at_j : Int} (t_v_at : mI v_at = v_at_j) {v_fault : Int32} {v_fault_j : Int} (t_v_fault : mI v_fault = v_fault_j) {v_faultAt : Int32} {v_faultAt_j : Int} (t_v_faultAt : mI v_faultAt = v_faultAt_j) {v_kind : Int32} {v_kind_j : Int} (t_v_kind : mI v_kind = v_kind_j) {v_open : Int32} {v_open_j : Int} (t_v_open : mI v_open = v_open_j) {v_size : Int32} {v_size_j : Int} (t_v_size : mI v_size = v_size_j) {v_stop : Int32} {v_stop_j : Int} (t_v_stop : mI v_stop = v_stop_j) {v_code : (Nat → Int32)} {v_code_j : (Nat → Int)} (t_v_code : mA v_code = v_code_j) : tl (mP mI (mP mI (mP mI (mP mI (mP mI (mP mI (mP mI (mP mI mA)))))))) (iReader_readSum_b7_F N_j rec_j v_length_j v_tape_j self_j x1_j x2_j v_at_j v_fault_j v_faultAt_j v_kind_j v_open_j v_size_j v_stop_j v_code_j) (pReader_readSum_b7_F N rec v_length v_tape self x1 x2 v_at v_fault v_faultAt v_kind v_open v_size v_stop v_code) := by
  subst t_N
  subst t_v_length
  subst t_v_tape
  subst t_x1
  subst t_x2
  subst t_v_at
  subst t_v_fault
  subst t_v_faultAt
  subst t_v_kind
  subst t_v_open
  subst t_v_size
  subst t_v_stop
  subst t_v_code
  unfold iReader_readSum_b7_F pReader_readSum_b7_F
  refine tl_ite (jc_le jlitI_600 (Eq.refl (mI x2))) ?_ ?_
  · refine tl_gd (jg_isB (Eq.refl (mI x1))) (fun _ => ?_)
    exact (tl_some (jp2 (Eq.refl (mI x1)) (jp2 (Eq.refl (mI v_at)) (jp2 (Eq.refl (mI v_fault)) (jp2 (Eq.refl (mI v_faultAt)) (jp2 (Eq.refl (mI v_kind)) (jp2 (Eq.refl (mI v_open)) (jp2 (Eq.refl (mI v_size)) (jp2 (Eq.refl (mI v_stop)) (Eq.refl (mA v_code)))))))))))
  · refine tl_ite (jc_eq (Eq.refl (mI x1)) jlitI_0) ?_ ?_
    · refine tl_gd (jg_isB (Eq.refl (mI x1))) (fun _ => ?_)
      exact (tl_some (jp2 (Eq.refl (mI x1)) (jp2 (Eq.refl (mI v_at)) (jp2 (Eq.refl (mI v_fault)) (jp2 (Eq.refl (mI v_faultAt)) (jp2 (Eq.refl (mI v_kind)) (jp2 (Eq.refl (mI v_open)) (jp2 (Eq.refl (mI v_size)) (jp2 (Eq.refl (mI v_stop)) (Eq.refl (mA v_code)))))))))))
    · refine tl_bd4 (t_pReader_takeMark (Eq.refl N) jlitI_43 (Eq.refl (mI v_at)) (Eq.refl (mI v_kind)) (Eq.refl (mI v_length)) (Eq.refl (mI v_stop)) (Eq.refl (mA v_tape))) (fun rc2 v_at_c2 v_kind_c2 v_stop_c2 => ?_)
      refine tl_ite (jc_eq (Eq.refl (mI rc2)) jlitI_0) ?_ ?_
      · refine tl_bd4 (t_pReader_takeMark (Eq.refl N) jlitI_45 (Eq.refl (mI v_at_c2)) (Eq.refl (mI v_kind_c2)) (Eq.refl (mI v_length)) (Eq.refl (mI v_stop_c2)) (Eq.refl (mA v_tape))) (fun rc3 v_at_c3 v_kind_c3 v_stop_c3 => ?_)
        refine tl_ite (jc_eq (Eq.refl (mI rc3)) jlitI_0) ?_ ?_
        · exact (t_pReader_readSum_b47 (Eq.refl N) t_rec (Eq.refl (mI v_length)) (Eq.refl (mA v_tape)) t_self (Eq.refl (mI x2)) jlitI_0 (Eq.refl (mI v_at_c3)) (Eq.refl (mI v_fault)) (Eq.refl (mI v_faultAt)) (Eq.refl (mI v_kind_c3)) (Eq.refl (mI v_open)) (Eq.refl (mI v_size)) (Eq.refl (mI v_stop_c3)) (Eq.refl (mA v_code)))
        · exact (t_pReader_readSum_b47 (Eq.refl N) t_rec (Eq.refl (mI v_length)) (Eq.refl (mA v_tape)) t_self (Eq.refl (mI x2)) jlitI_m8 (Eq.refl (mI v_at_c3)) (Eq.refl (mI v_fault)) (Eq.refl (mI v_faultAt)) (Eq.refl (mI v_kind_c3)) (Eq.refl (mI v_open)) (Eq.refl (mI v_size)) (Eq.refl (mI v_stop_c3)) (Eq.refl (mA v_code)))
      · exact (t_pReader_readSum_b47 (Eq.refl N) t_rec (Eq.refl (mI v_length)) (Eq.refl (mA v_tape)) t_self (Eq.refl (mI x2)) jlitI_m7 (Eq.refl (mI v_at_c2)) (Eq.refl (mI v_fault)) (Eq.refl (mI v_faultAt)) (Eq.refl (mI v_kind_c2)) (Eq.refl (mI v_open)) (Eq.refl (mI v_size)) (Eq.refl (mI v_stop_c2)) (Eq.refl (mA v_code)))
theorem t_pReader_readSum_b7 {N N_j : Nat} (t_N : N = N_j) {rec : Nat → Int32 → Int32 → Int32 → Int32 → Int32 → Int32 → Int32 → (Nat → Int32) → Option R_pReader_readSum} {rec_j : Nat → Int → Int → Int → Int → Int → Int → Int → (Nat → Int) → Option R_iReader_readSum} (t_rec : ∀ (q0_ : Nat) (q1_ : Int32) (q2_ : Int32) (q3_ : Int32) (q4_ : Int32) (q5_ : Int32) (q6_ : Int32) (q7_ : Int32) (q8_ : (Nat → Int32)), tl (mP mI (mP mI (mP mI (mP mI (mP mI (mP mI (mP mI (mP mI mA)))))))) (rec_j q0_ (mI q1_) (mI q2_) (mI q3_) (mI q4_) (mI q5_) (mI q6_) (mI q7_) (mA q8_)) (rec q0_ q1_ q2_ q3_ q4_ q5_ q6_ q7_ q8_)) {v_length : Int32} {v_length_j : Int} (t_v_length : mI v_length = v_length_j) {v_tape : (Nat → Int32)} {v_tape_j : (Nat → Int)} (t_v_tape : mA v_tape = v_tape_j) {n n_j : Nat} (t_n : n = n_j) {w0_ : Int32} {w0__j : Int} (t_w0_ : mI w0_ = w0__j) {w1_ : Int32} {w1__j : Int} (t_w1_ : mI w1_ = w1__j) {w2_ : Int32} {w2__j : Int} (t_w2_ : mI w2_ = w2__j) {w3_ : Int32} {w3__j : Int} (t_w3_ : mI w3_ = w3__j) {w4_ : Int32} {w4__j : Int} (t_w4_ : mI w4_ = w4__j) {w5_ : Int32} {w5__j : Int} (t_w5_ : mI w5_ = w5__j) {w6_ : Int32} {w6__j : Int} (t_w6_ : mI w6_ = w6__j) {w7_ : Int32} {w7__j : Int} (t_w7_ : mI w7_ = w7__j) {w8_ : Int32} {w8__j : Int} (t_w8_ : mI w8_ = w8__j) {w9_ : (Nat → Int32)} {w9__j : (Nat → Int)} (t_w9_ : mA w9_ = w9__j) : tl (mP mI (mP mI (mP mI (mP mI (mP mI (mP mI (mP mI (mP mI mA)))))))) (iReader_readSum_b7 N_j rec_j v_length_j v_tape_j n_j w0__j w1__j w2__j w3__j w4__j w5__j w6__j w7__j w8__j w9__j) (pReader_readSum_b7 N rec v_length v_tape n w0_ w1_ w2_ w3_ w4_ w5_ w6_ w7_ w8_ w9_) := by
  subst t_N
  subst t_v_length
  subst t_v_tape
  subst t_n
  subst t_w0_
  subst t_w1_
  subst t_w2_
  subst t_w3_
  subst t_w4_
  subst t_w5_
  subst t_w6_
  subst t_w7_
  subst t_w8_
  subst t_w9_
  exact tl_zlp10 (fun s2 s hs w0_ w1_ w2_ w3_ w4_ w5_ w6_ w7_ w8_ w9_ => t_pReader_readSum_b7_F (Eq.refl N) t_rec (Eq.refl (mI v_length)) (Eq.refl (mA v_tape)) hs (Eq.refl (mI w0_)) (Eq.refl (mI w1_)) (Eq.refl (mI w2_)) (Eq.refl (mI w3_)) (Eq.refl (mI w4_)) (Eq.refl (mI w5_)) (Eq.refl (mI w6_)) (Eq.refl (mI w7_)) (Eq.refl (mI w8_)) (Eq.refl (mA w9_))) n w0_ w1_ w2_ w3_ w4_ w5_ w6_ w7_ w8_ w9_
theorem t_pReader_readSum_G {N N_j : Nat} (t_N : N = N_j) {rec : Nat → Int32 → Int32 → Int32 → Int32 → Int32 → Int32 → Int32 → (Nat → Int32) → Option R_pReader_readSum} {rec_j : Nat → Int → Int → Int → Int → Int → Int → Int → (Nat → Int) → Option R_iReader_readSum} (t_rec : ∀ (q0_ : Nat) (q1_ : Int32) (q2_ : Int32) (q3_ : Int32) (q4_ : Int32) (q5_ : Int32) (q6_ : Int32) (q7_ : Int32) (q8_ : (Nat → Int32)), tl (mP mI (mP mI (mP mI (mP mI (mP mI (mP mI (mP mI (mP mI mA)))))))) (rec_j q0_ (mI q1_) (mI q2_) (mI q3_) (mI q4_) (mI q5_) (mI q6_) (mI q7_) (mA q8_)) (rec q0_ q1_ q2_ q3_ q4_ q5_ q6_ q7_ q8_)) {v_length : Int32} {v_length_j : Int} (t_v_length : mI v_length = v_length_j) {v_tape : (Nat → Int32)} {v_tape_j : (Nat → Int)} (t_v_tape : mA v_tape = v_tape_j) {v_at : Int32} {v_at_j : Int} (t_v_at : mI v_at = v_at_j) {v_fault : Int32} {v_fault_j : Int} (t_v_fault : mI v_fault = v_fault_j) {v_faultAt : Int32} {v_faultAt_j : Int} (t_v_faultAt : mI v_faultAt = v_faultAt_j) {v_kind : Int32} {v_kind_j : Int} (t_v_kind : mI v_kind = v_kind_j) {v_open : Int32} {v_open_j : Int} (t_v_open : mI v_open = v_open_j) {v_size : Int32} {v_size_j : Int} (t_v_size : mI v_size = v_size_j) {v_stop : Int32} {v_stop_j : Int} (t_v_stop : mI v_stop = v_stop_j) {v_code : (Nat → Int32)} {v_code_j : (Nat → Int)} (t_v_code : mA v_code = v_code_j) : tl (mP mI (mP mI (mP mI (mP mI (mP mI (mP mI (mP mI (mP mI mA)))))))) (iReader_readSum_G N_j rec_j v_length_j v_tape_j v_at_j v_fault_j v_faultAt_j v_kind_j v_open_j v_size_j v_stop_j v_code_j) (pReader_readSum_G N rec v_length v_tape v_at v_fault v_faultAt v_kind v_open v_size v_stop v_code) := by
  subst t_N
  subst t_v_length
  subst t_v_tape
  subst t_v_at
  subst t_v_fault
  subst t_v_faultAt
  subst t_v_kind
  subst t_v_open
  subst t_v_size
  subst t_v_stop
  subst t_v_code
  unfold iReader_readSum_G pReader_readSum_G
  refine tl_bd9 (tl_e8 (f2 := rec_j 1) (Eq.refl (mI v_at)) (Eq.refl (mI v_fault)) (Eq.refl (mI v_faultAt)) (Eq.refl (mI v_kind)) (Eq.refl (mI v_open)) (Eq.refl (mI v_size)) (Eq.refl (mI v_stop)) (Eq.refl (mA v_code)) (t_rec 1 _ _ _ _ _ _ _ _)) (fun rc1 v_at_c1 v_fault_c1 v_faultAt_c1 v_kind_c1 v_open_c1 v_size_c1 v_stop_c1 v_code_c1 => ?_)
  exact (t_pReader_readSum_b7 (Eq.refl N) t_rec (Eq.refl (mI v_length)) (Eq.refl (mA v_tape)) (Eq.refl N) (Eq.refl (mI rc1)) jlitI_0 (Eq.refl (mI v_at_c1)) (Eq.refl (mI v_fault_c1)) (Eq.refl (mI v_faultAt_c1)) (Eq.refl (mI v_kind_c1)) (Eq.refl (mI v_open_c1)) (Eq.refl (mI v_size_c1)) (Eq.refl (mI v_stop_c1)) (Eq.refl (mA v_code_c1)))
theorem t_pReader_readTwo_G {N N_j : Nat} (t_N : N = N_j) {rec : Nat → Int32 → Int32 → Int32 → Int32 → Int32 → Int32 → Int32 → (Nat → Int32) → Option R_pReader_readTwo} {rec_j : Nat → Int → Int → Int → Int → Int → Int → Int → (Nat → Int) → Option R_iReader_readTwo} (t_rec : ∀ (q0_ : Nat) (q1_ : Int32) (q2_ : Int32) (q3_ : Int32) (q4_ : Int32) (q5_ : Int32) (q6_ : Int32) (q7_ : Int32) (q8_ : (Nat → Int32)), tl (mP mI (mP mI (mP mI (mP mI (mP mI (mP mI (mP mI (mP mI mA)))))))) (rec_j q0_ (mI q1_) (mI q2_) (mI q3_) (mI q4_) (mI q5_) (mI q6_) (mI q7_) (mA q8_)) (rec q0_ q1_ q2_ q3_ q4_ q5_ q6_ q7_ q8_)) {v_length : Int32} {v_length_j : Int} (t_v_length : mI v_length = v_length_j) {v_tape : (Nat → Int32)} {v_tape_j : (Nat → Int)} (t_v_tape : mA v_tape = v_tape_j) {v_at : Int32} {v_at_j : Int} (t_v_at : mI v_at = v_at_j) {v_fault : Int32} {v_fault_j : Int} (t_v_fault : mI v_fault = v_fault_j) {v_faultAt : Int32} {v_faultAt_j : Int} (t_v_faultAt : mI v_faultAt = v_faultAt_j) {v_kind : Int32} {v_kind_j : Int} (t_v_kind : mI v_kind = v_kind_j) {v_open : Int32} {v_open_j : Int} (t_v_open : mI v_open = v_open_j) {v_size : Int32} {v_size_j : Int} (t_v_size : mI v_size = v_size_j) {v_stop : Int32} {v_stop_j : Int} (t_v_stop : mI v_stop = v_stop_j) {v_code : (Nat → Int32)} {v_code_j : (Nat → Int)} (t_v_code : mA v_code = v_code_j) : tl (mP mI (mP mI (mP mI (mP mI (mP mI (mP mI (mP mI (mP mI mA)))))))) (iReader_readTwo_G N_j rec_j v_length_j v_tape_j v_at_j v_fault_j v_faultAt_j v_kind_j v_open_j v_size_j v_stop_j v_code_j) (pReader_readTwo_G N rec v_length v_tape v_at v_fault v_faultAt v_kind v_open v_size v_stop v_code) := by
  subst t_N
  subst t_v_length
  subst t_v_tape
  subst t_v_at
  subst t_v_fault
  subst t_v_faultAt
  subst t_v_kind
  subst t_v_open
  subst t_v_size
  subst t_v_stop
  subst t_v_code
  unfold iReader_readTwo_G pReader_readTwo_G
  refine tl_bd6 (t_pReader_needMark (Eq.refl N) jlitI_40 (Eq.refl (mI v_at)) (Eq.refl (mI v_fault)) (Eq.refl (mI v_faultAt)) (Eq.refl (mI v_kind)) (Eq.refl (mI v_length)) (Eq.refl (mI v_stop)) (Eq.refl (mA v_tape))) (fun rc1 v_at_c1 v_fault_c1 v_faultAt_c1 v_kind_c1 v_stop_c1 => ?_)
  refine tl_ite (jc_eq (Eq.refl (mI rc1)) jlitI_0) ?_ ?_
  · exact (tl_some (jp2 jlitI_0 (jp2 (Eq.refl (mI v_at_c1)) (jp2 (Eq.refl (mI v_fault_c1)) (jp2 (Eq.refl (mI v_faultAt_c1)) (jp2 (Eq.refl (mI v_kind_c1)) (jp2 (Eq.refl (mI v_open)) (jp2 (Eq.refl (mI v_size)) (jp2 (Eq.refl (mI v_stop_c1)) (Eq.refl (mA v_code)))))))))))
  · refine tl_bd4 (t_pReader_opens (Eq.refl (mI v_at)) (Eq.refl (mI v_fault_c1)) (Eq.refl (mI v_faultAt_c1)) (Eq.refl (mI v_open))) (fun rc2 v_fault_c2 v_faultAt_c2 v_open_c2 => ?_)
    refine tl_ite (jc_eq (Eq.refl (mI rc2)) jlitI_0) ?_ ?_
    · exact (tl_some (jp2 jlitI_0 (jp2 (Eq.refl (mI v_at_c1)) (jp2 (Eq.refl (mI v_fault_c2)) (jp2 (Eq.refl (mI v_faultAt_c2)) (jp2 (Eq.refl (mI v_kind_c1)) (jp2 (Eq.refl (mI v_open_c2)) (jp2 (Eq.refl (mI v_size)) (jp2 (Eq.refl (mI v_stop_c1)) (Eq.refl (mA v_code)))))))))))
    · refine tl_bd9 (tl_e8 (f2 := rec_j 2) (Eq.refl (mI v_at_c1)) (Eq.refl (mI v_fault_c2)) (Eq.refl (mI v_faultAt_c2)) (Eq.refl (mI v_kind_c1)) (Eq.refl (mI v_open_c2)) (Eq.refl (mI v_size)) (Eq.refl (mI v_stop_c1)) (Eq.refl (mA v_code)) (t_rec 2 _ _ _ _ _ _ _ _)) (fun rc3 v_at_c3 v_fault_c3 v_faultAt_c3 v_kind_c3 v_open_c3 v_size_c3 v_stop_c3 v_code_c3 => ?_)
      refine tl_ite (jc_eq (Eq.refl (mI rc3)) jlitI_0) ?_ ?_
      · exact (tl_some (jp2 jlitI_0 (jp2 (Eq.refl (mI v_at_c3)) (jp2 (Eq.refl (mI v_fault_c3)) (jp2 (Eq.refl (mI v_faultAt_c3)) (jp2 (Eq.refl (mI v_kind_c3)) (jp2 (Eq.refl (mI v_open_c3)) (jp2 (Eq.refl (mI v_size_c3)) (jp2 (Eq.refl (mI v_stop_c3)) (Eq.refl (mA v_code_c3)))))))))))
      · refine tl_bd6 (t_pReader_needMark (Eq.refl N) jlitI_44 (Eq.refl (mI v_at_c3)) (Eq.refl (mI v_fault_c3)) (Eq.refl (mI v_faultAt_c3)) (Eq.refl (mI v_kind_c3)) (Eq.refl (mI v_length)) (Eq.refl (mI v_stop_c3)) (Eq.refl (mA v_tape))) (fun rc4 v_at_c4 v_fault_c4 v_faultAt_c4 v_kind_c4 v_stop_c4 => ?_)
        refine tl_ite (jc_eq (Eq.refl (mI rc4)) jlitI_0) ?_ ?_
        · exact (tl_some (jp2 jlitI_0 (jp2 (Eq.refl (mI v_at_c4)) (jp2 (Eq.refl (mI v_fault_c4)) (jp2 (Eq.refl (mI v_faultAt_c4)) (jp2 (Eq.refl (mI v_kind_c4)) (jp2 (Eq.refl (mI v_open_c3)) (jp2 (Eq.refl (mI v_size_c3)) (jp2 (Eq.refl (mI v_stop_c4)) (Eq.refl (mA v_code_c3)))))))))))
        · refine tl_bd9 (tl_e8 (f2 := rec_j 2) (Eq.refl (mI v_at_c4)) (Eq.refl (mI v_fault_c4)) (Eq.refl (mI v_faultAt_c4)) (Eq.refl (mI v_kind_c4)) (Eq.refl (mI v_open_c3)) (Eq.refl (mI v_size_c3)) (Eq.refl (mI v_stop_c4)) (Eq.refl (mA v_code_c3)) (t_rec 2 _ _ _ _ _ _ _ _)) (fun rc5 v_at_c5 v_fault_c5 v_faultAt_c5 v_kind_c5 v_open_c5 v_size_c5 v_stop_c5 v_code_c5 => ?_)
          refine tl_ite (jc_eq (Eq.refl (mI rc5)) jlitI_0) ?_ ?_
          · exact (tl_some (jp2 jlitI_0 (jp2 (Eq.refl (mI v_at_c5)) (jp2 (Eq.refl (mI v_fault_c5)) (jp2 (Eq.refl (mI v_faultAt_c5)) (jp2 (Eq.refl (mI v_kind_c5)) (jp2 (Eq.refl (mI v_open_c5)) (jp2 (Eq.refl (mI v_size_c5)) (jp2 (Eq.refl (mI v_stop_c5)) (Eq.refl (mA v_code_c5)))))))))))
          · refine tl_bd6 (t_pReader_needMark (Eq.refl N) jlitI_41 (Eq.refl (mI v_at_c5)) (Eq.refl (mI v_fault_c5)) (Eq.refl (mI v_faultAt_c5)) (Eq.refl (mI v_kind_c5)) (Eq.refl (mI v_length)) (Eq.refl (mI v_stop_c5)) (Eq.refl (mA v_tape))) (fun rc6 v_at_c6 v_fault_c6 v_faultAt_c6 v_kind_c6 v_stop_c6 => ?_)
            refine tl_ite (jc_eq (Eq.refl (mI rc6)) jlitI_0) ?_ ?_
            · exact (tl_some (jp2 jlitI_0 (jp2 (Eq.refl (mI v_at_c6)) (jp2 (Eq.refl (mI v_fault_c6)) (jp2 (Eq.refl (mI v_faultAt_c6)) (jp2 (Eq.refl (mI v_kind_c6)) (jp2 (Eq.refl (mI v_open_c5)) (jp2 (Eq.refl (mI v_size_c5)) (jp2 (Eq.refl (mI v_stop_c6)) (Eq.refl (mA v_code_c5)))))))))))
            · refine tl_bd2 (t_pReader_closes (Eq.refl (mI v_open_c5))) (fun rc7 v_open_c7 => ?_)
              refine tl_ite (jc_eq (Eq.refl (mI rc7)) jlitI_0) ?_ ?_
              · exact (tl_some (jp2 jlitI_0 (jp2 (Eq.refl (mI v_at_c6)) (jp2 (Eq.refl (mI v_fault_c6)) (jp2 (Eq.refl (mI v_faultAt_c6)) (jp2 (Eq.refl (mI v_kind_c6)) (jp2 (Eq.refl (mI v_open_c7)) (jp2 (Eq.refl (mI v_size_c5)) (jp2 (Eq.refl (mI v_stop_c6)) (Eq.refl (mA v_code_c5)))))))))))
              · exact (tl_some (jp2 jlitI_1 (jp2 (Eq.refl (mI v_at_c6)) (jp2 (Eq.refl (mI v_fault_c6)) (jp2 (Eq.refl (mI v_faultAt_c6)) (jp2 (Eq.refl (mI v_kind_c6)) (jp2 (Eq.refl (mI v_open_c7)) (jp2 (Eq.refl (mI v_size_c5)) (jp2 (Eq.refl (mI v_stop_c6)) (Eq.refl (mA v_code_c5)))))))))))
theorem t_pG_readPart_readProduct_readSum_readTwo {N N_j : Nat} (t_N : N = N_j) {v_length : Int32} {v_length_j : Int} (t_v_length : mI v_length = v_length_j) {v_tape : (Nat → Int32)} {v_tape_j : (Nat → Int)} (t_v_tape : mA v_tape = v_tape_j) {d d_j : Nat} (t_d : d = d_j) {tag tag_j : Nat} (t_tag : tag = tag_j) {v_at : Int32} {v_at_j : Int} (t_v_at : mI v_at = v_at_j) {v_fault : Int32} {v_fault_j : Int} (t_v_fault : mI v_fault = v_fault_j) {v_faultAt : Int32} {v_faultAt_j : Int} (t_v_faultAt : mI v_faultAt = v_faultAt_j) {v_kind : Int32} {v_kind_j : Int} (t_v_kind : mI v_kind = v_kind_j) {v_open : Int32} {v_open_j : Int} (t_v_open : mI v_open = v_open_j) {v_size : Int32} {v_size_j : Int} (t_v_size : mI v_size = v_size_j) {v_stop : Int32} {v_stop_j : Int} (t_v_stop : mI v_stop = v_stop_j) {v_code : (Nat → Int32)} {v_code_j : (Nat → Int)} (t_v_code : mA v_code = v_code_j) : tl (mP mI (mP mI (mP mI (mP mI (mP mI (mP mI (mP mI (mP mI mA)))))))) (iG_readPart_readProduct_readSum_readTwo N_j v_length_j v_tape_j d_j tag_j v_at_j v_fault_j v_faultAt_j v_kind_j v_open_j v_size_j v_stop_j v_code_j) (pG_readPart_readProduct_readSum_readTwo N v_length v_tape d tag v_at v_fault v_faultAt v_kind v_open v_size v_stop v_code) := by
  subst t_N
  subst t_v_length
  subst t_v_tape
  subst t_d
  subst t_tag
  subst t_v_at
  subst t_v_fault
  subst t_v_faultAt
  subst t_v_kind
  subst t_v_open
  subst t_v_size
  subst t_v_stop
  subst t_v_code
  refine tl_gr8 (fun rec_j rec t_rec tag v_at v_fault v_faultAt v_kind v_open v_size v_stop v_code => ?_) d tag v_at v_fault v_faultAt v_kind v_open v_size v_stop v_code
  refine tl_ite Iff.rfl ?_ ?_
  · exact (t_pReader_readPart_G (Eq.refl N) t_rec (Eq.refl (mI v_length)) (Eq.refl (mA v_tape)) (Eq.refl (mI v_at)) (Eq.refl (mI v_fault)) (Eq.refl (mI v_faultAt)) (Eq.refl (mI v_kind)) (Eq.refl (mI v_open)) (Eq.refl (mI v_size)) (Eq.refl (mI v_stop)) (Eq.refl (mA v_code)))
  · refine tl_ite Iff.rfl ?_ ?_
    · exact (t_pReader_readProduct_G (Eq.refl N) t_rec (Eq.refl (mI v_length)) (Eq.refl (mA v_tape)) (Eq.refl (mI v_at)) (Eq.refl (mI v_fault)) (Eq.refl (mI v_faultAt)) (Eq.refl (mI v_kind)) (Eq.refl (mI v_open)) (Eq.refl (mI v_size)) (Eq.refl (mI v_stop)) (Eq.refl (mA v_code)))
    · refine tl_ite Iff.rfl ?_ ?_
      · exact (t_pReader_readSum_G (Eq.refl N) t_rec (Eq.refl (mI v_length)) (Eq.refl (mA v_tape)) (Eq.refl (mI v_at)) (Eq.refl (mI v_fault)) (Eq.refl (mI v_faultAt)) (Eq.refl (mI v_kind)) (Eq.refl (mI v_open)) (Eq.refl (mI v_size)) (Eq.refl (mI v_stop)) (Eq.refl (mA v_code)))
      · exact (t_pReader_readTwo_G (Eq.refl N) t_rec (Eq.refl (mI v_length)) (Eq.refl (mA v_tape)) (Eq.refl (mI v_at)) (Eq.refl (mI v_fault)) (Eq.refl (mI v_faultAt)) (Eq.refl (mI v_kind)) (Eq.refl (mI v_open)) (Eq.refl (mI v_size)) (Eq.refl (mI v_stop)) (Eq.refl (mA v_code)))
theorem t_pReader_readPart {N N_j : Nat} (t_N : N = N_j) {v_at : Int32} {v_at_j : Int} (t_v_at : mI v_at = v_at_j) {v_fault : Int32} {v_fault_j : Int} (t_v_fault : mI v_fault = v_fault_j) {v_faultAt : Int32} {v_faultAt_j : Int} (t_v_faultAt : mI v_faultAt = v_faultAt_j) {v_kind : Int32} {v_kind_j : Int} (t_v_kind : mI v_kind = v_kind_j) {v_length : Int32} {v_length_j : Int} (t_v_length : mI v_length = v_length_j) {v_open : Int32} {v_open_j : Int} (t_v_open : mI v_open = v_open_j) {v_size : Int32} {v_size_j : Int} (t_v_size : mI v_size = v_size_j) {v_stop : Int32} {v_stop_j : Int} (t_v_stop : mI v_stop = v_stop_j) {v_code : (Nat → Int32)} {v_code_j : (Nat → Int)} (t_v_code : mA v_code = v_code_j) {v_tape : (Nat → Int32)} {v_tape_j : (Nat → Int)} (t_v_tape : mA v_tape = v_tape_j) : tl (mP mI (mP mI (mP mI (mP mI (mP mI (mP mI (mP mI (mP mI mA)))))))) (iReader_readPart N_j v_at_j v_fault_j v_faultAt_j v_kind_j v_length_j v_open_j v_size_j v_stop_j v_code_j v_tape_j) (pReader_readPart N v_at v_fault v_faultAt v_kind v_length v_open v_size v_stop v_code v_tape) := by
  subst t_N
  subst t_v_at
  subst t_v_fault
  subst t_v_faultAt
  subst t_v_kind
  subst t_v_length
  subst t_v_open
  subst t_v_size
  subst t_v_stop
  subst t_v_code
  subst t_v_tape
  unfold iReader_readPart pReader_readPart
  exact (t_pG_readPart_readProduct_readSum_readTwo (Eq.refl N) (Eq.refl (mI v_length)) (Eq.refl (mA v_tape)) (Eq.refl _) (Eq.refl _) (Eq.refl (mI v_at)) (Eq.refl (mI v_fault)) (Eq.refl (mI v_faultAt)) (Eq.refl (mI v_kind)) (Eq.refl (mI v_open)) (Eq.refl (mI v_size)) (Eq.refl (mI v_stop)) (Eq.refl (mA v_code)))
theorem t_pReader_readProduct {N N_j : Nat} (t_N : N = N_j) {v_at : Int32} {v_at_j : Int} (t_v_at : mI v_at = v_at_j) {v_fault : Int32} {v_fault_j : Int} (t_v_fault : mI v_fault = v_fault_j) {v_faultAt : Int32} {v_faultAt_j : Int} (t_v_faultAt : mI v_faultAt = v_faultAt_j) {v_kind : Int32} {v_kind_j : Int} (t_v_kind : mI v_kind = v_kind_j) {v_length : Int32} {v_length_j : Int} (t_v_length : mI v_length = v_length_j) {v_open : Int32} {v_open_j : Int} (t_v_open : mI v_open = v_open_j) {v_size : Int32} {v_size_j : Int} (t_v_size : mI v_size = v_size_j) {v_stop : Int32} {v_stop_j : Int} (t_v_stop : mI v_stop = v_stop_j) {v_code : (Nat → Int32)} {v_code_j : (Nat → Int)} (t_v_code : mA v_code = v_code_j) {v_tape : (Nat → Int32)} {v_tape_j : (Nat → Int)} (t_v_tape : mA v_tape = v_tape_j) : tl (mP mI (mP mI (mP mI (mP mI (mP mI (mP mI (mP mI (mP mI mA)))))))) (iReader_readProduct N_j v_at_j v_fault_j v_faultAt_j v_kind_j v_length_j v_open_j v_size_j v_stop_j v_code_j v_tape_j) (pReader_readProduct N v_at v_fault v_faultAt v_kind v_length v_open v_size v_stop v_code v_tape) := by
  subst t_N
  subst t_v_at
  subst t_v_fault
  subst t_v_faultAt
  subst t_v_kind
  subst t_v_length
  subst t_v_open
  subst t_v_size
  subst t_v_stop
  subst t_v_code
  subst t_v_tape
  unfold iReader_readProduct pReader_readProduct
  exact (t_pG_readPart_readProduct_readSum_readTwo (Eq.refl N) (Eq.refl (mI v_length)) (Eq.refl (mA v_tape)) (Eq.refl _) (Eq.refl _) (Eq.refl (mI v_at)) (Eq.refl (mI v_fault)) (Eq.refl (mI v_faultAt)) (Eq.refl (mI v_kind)) (Eq.refl (mI v_open)) (Eq.refl (mI v_size)) (Eq.refl (mI v_stop)) (Eq.refl (mA v_code)))
theorem t_pReader_readSum {N N_j : Nat} (t_N : N = N_j) {v_at : Int32} {v_at_j : Int} (t_v_at : mI v_at = v_at_j) {v_fault : Int32} {v_fault_j : Int} (t_v_fault : mI v_fault = v_fault_j) {v_faultAt : Int32} {v_faultAt_j : Int} (t_v_faultAt : mI v_faultAt = v_faultAt_j) {v_kind : Int32} {v_kind_j : Int} (t_v_kind : mI v_kind = v_kind_j) {v_length : Int32} {v_length_j : Int} (t_v_length : mI v_length = v_length_j) {v_open : Int32} {v_open_j : Int} (t_v_open : mI v_open = v_open_j) {v_size : Int32} {v_size_j : Int} (t_v_size : mI v_size = v_size_j) {v_stop : Int32} {v_stop_j : Int} (t_v_stop : mI v_stop = v_stop_j) {v_code : (Nat → Int32)} {v_code_j : (Nat → Int)} (t_v_code : mA v_code = v_code_j) {v_tape : (Nat → Int32)} {v_tape_j : (Nat → Int)} (t_v_tape : mA v_tape = v_tape_j) : tl (mP mI (mP mI (mP mI (mP mI (mP mI (mP mI (mP mI (mP mI mA)))))))) (iReader_readSum N_j v_at_j v_fault_j v_faultAt_j v_kind_j v_length_j v_open_j v_size_j v_stop_j v_code_j v_tape_j) (pReader_readSum N v_at v_fault v_faultAt v_kind v_length v_open v_size v_stop v_code v_tape) := by
  subst t_N
  subst t_v_at
  subst t_v_fault
  subst t_v_faultAt
  subst t_v_kind
  subst t_v_length
  subst t_v_open
  subst t_v_size
  subst t_v_stop
  subst t_v_code
  subst t_v_tape
  unfold iReader_readSum pReader_readSum
  exact (t_pG_readPart_readProduct_readSum_readTwo (Eq.refl N) (Eq.refl (mI v_length)) (Eq.refl (mA v_tape)) (Eq.refl _) (Eq.refl _) (Eq.refl (mI v_at)) (Eq.refl (mI v_fault)) (Eq.refl (mI v_faultAt)) (Eq.refl (mI v_kind)) (Eq.refl (mI v_open)) (Eq.refl (mI v_size)) (Eq.refl (mI v_stop)) (Eq.refl (mA v_code)))
theorem t_pReader_readTwo {N N_j : Nat} (t_N : N = N_j) {v_at : Int32} {v_at_j : Int} (t_v_at : mI v_at = v_at_j) {v_fault : Int32} {v_fault_j : Int} (t_v_fault : mI v_fault = v_fault_j) {v_faultAt : Int32} {v_faultAt_j : Int} (t_v_faultAt : mI v_faultAt = v_faultAt_j) {v_kind : Int32} {v_kind_j : Int} (t_v_kind : mI v_kind = v_kind_j) {v_length : Int32} {v_length_j : Int} (t_v_length : mI v_length = v_length_j) {v_open : Int32} {v_open_j : Int} (t_v_open : mI v_open = v_open_j) {v_size : Int32} {v_size_j : Int} (t_v_size : mI v_size = v_size_j) {v_stop : Int32} {v_stop_j : Int} (t_v_stop : mI v_stop = v_stop_j) {v_code : (Nat → Int32)} {v_code_j : (Nat → Int)} (t_v_code : mA v_code = v_code_j) {v_tape : (Nat → Int32)} {v_tape_j : (Nat → Int)} (t_v_tape : mA v_tape = v_tape_j) : tl (mP mI (mP mI (mP mI (mP mI (mP mI (mP mI (mP mI (mP mI mA)))))))) (iReader_readTwo N_j v_at_j v_fault_j v_faultAt_j v_kind_j v_length_j v_open_j v_size_j v_stop_j v_code_j v_tape_j) (pReader_readTwo N v_at v_fault v_faultAt v_kind v_length v_open v_size v_stop v_code v_tape) := by
  subst t_N
  subst t_v_at
  subst t_v_fault
  subst t_v_faultAt
  subst t_v_kind
  subst t_v_length
  subst t_v_open
  subst t_v_size
  subst t_v_stop
  subst t_v_code
  subst t_v_tape
  unfold iReader_readTwo pReader_readTwo
  exact (t_pG_readPart_readProduct_readSum_readTwo (Eq.refl N) (Eq.refl (mI v_length)) (Eq.refl (mA v_tape)) (Eq.refl _) (Eq.refl _) (Eq.refl (mI v_at)) (Eq.refl (mI v_fault)) (Eq.refl (mI v_faultAt)) (Eq.refl (mI v_kind)) (Eq.refl (mI v_open)) (Eq.refl (mI v_size)) (Eq.refl (mI v_stop)) (Eq.refl (mA v_code)))
theorem t_pReader_needWord {N N_j : Nat} (t_N : N = N_j) {a1 a1_j : Nat} (t_a1 : a1 = a1_j) {v_at : Int32} {v_at_j : Int} (t_v_at : mI v_at = v_at_j) {v_fault : Int32} {v_fault_j : Int} (t_v_fault : mI v_fault = v_fault_j) {v_faultAt : Int32} {v_faultAt_j : Int} (t_v_faultAt : mI v_faultAt = v_faultAt_j) {v_kind : Int32} {v_kind_j : Int} (t_v_kind : mI v_kind = v_kind_j) {v_length : Int32} {v_length_j : Int} (t_v_length : mI v_length = v_length_j) {v_stop : Int32} {v_stop_j : Int} (t_v_stop : mI v_stop = v_stop_j) {v_tape : (Nat → Int32)} {v_tape_j : (Nat → Int)} (t_v_tape : mA v_tape = v_tape_j) : tl (mP mI (mP mI (mP mI (mP mI (mP mI mI))))) (iReader_needWord N_j a1_j v_at_j v_fault_j v_faultAt_j v_kind_j v_length_j v_stop_j v_tape_j) (pReader_needWord N a1 v_at v_fault v_faultAt v_kind v_length v_stop v_tape) := by
  subst t_N
  subst t_a1
  subst t_v_at
  subst t_v_fault
  subst t_v_faultAt
  subst t_v_kind
  subst t_v_length
  subst t_v_stop
  subst t_v_tape
  unfold iReader_needWord pReader_needWord
  refine tl_bd4 (t_pReader_takeWord (Eq.refl N) (Eq.refl a1) (Eq.refl (mI v_at)) (Eq.refl (mI v_kind)) (Eq.refl (mI v_length)) (Eq.refl (mI v_stop)) (Eq.refl (mA v_tape))) (fun rc1 v_at_c1 v_kind_c1 v_stop_c1 => ?_)
  refine tl_ite (jc_eq (Eq.refl (mI rc1)) jlitI_0) ?_ ?_
  · refine tl_bd3 (t_pReader_fail jlitI_1 (Eq.refl (mI v_at_c1)) (Eq.refl (mI v_fault)) (Eq.refl (mI v_faultAt))) (fun rc2 v_fault_c2 v_faultAt_c2 => ?_)
    refine tl_ite (jc_eq (Eq.refl (mI rc2)) jlitI_0) ?_ ?_
    · exact (tl_some (jp2 jlitI_0 (jp2 (Eq.refl (mI v_at_c1)) (jp2 (Eq.refl (mI v_fault_c2)) (jp2 (Eq.refl (mI v_faultAt_c2)) (jp2 (Eq.refl (mI v_kind_c1)) (Eq.refl (mI v_stop_c1))))))))
    · exact (tl_some (jp2 jlitI_1 (jp2 (Eq.refl (mI v_at_c1)) (jp2 (Eq.refl (mI v_fault_c2)) (jp2 (Eq.refl (mI v_faultAt_c2)) (jp2 (Eq.refl (mI v_kind_c1)) (Eq.refl (mI v_stop_c1))))))))
  · exact (tl_some (jp2 jlitI_1 (jp2 (Eq.refl (mI v_at_c1)) (jp2 (Eq.refl (mI v_fault)) (jp2 (Eq.refl (mI v_faultAt)) (jp2 (Eq.refl (mI v_kind_c1)) (Eq.refl (mI v_stop_c1))))))))
theorem t_pReader_readDuty_b131 {N N_j : Nat} (t_N : N = N_j) {a1 : (Option Nat)} {a1_j : (Option Nat)} (t_a1 : mO a1 = a1_j) {v_length : Int32} {v_length_j : Int} (t_v_length : mI v_length = v_length_j) {v_tape : (Nat → Int32)} {v_tape_j : (Nat → Int)} (t_v_tape : mA v_tape = v_tape_j) {s0 : (Option Nat)} {s0_j : (Option Nat)} (t_s0 : mO s0 = s0_j) {s1 : Int32} {s1_j : Int} (t_s1 : mI s1 = s1_j) {v_D : Dyn} {v_D_j : DynI} (t_v_D : mD v_D = v_D_j) {v_at : Int32} {v_at_j : Int} (t_v_at : mI v_at = v_at_j) {v_fault : Int32} {v_fault_j : Int} (t_v_fault : mI v_fault = v_fault_j) {v_faultAt : Int32} {v_faultAt_j : Int} (t_v_faultAt : mI v_faultAt = v_faultAt_j) {v_kind : Int32} {v_kind_j : Int} (t_v_kind : mI v_kind = v_kind_j) {v_open : Int32} {v_open_j : Int} (t_v_open : mI v_open = v_open_j) {v_size : Int32} {v_size_j : Int} (t_v_size : mI v_size = v_size_j) {v_stop : Int32} {v_stop_j : Int} (t_v_stop : mI v_stop = v_stop_j) {v_code : (Nat → Int32)} {v_code_j : (Nat → Int)} (t_v_code : mA v_code = v_code_j) : tl (mP mI (mP mD (mP mI (mP mI (mP mI (mP mI (mP mI (mP mI (mP mI mA))))))))) (iReader_readDuty_b131 N_j a1_j v_length_j v_tape_j s0_j s1_j v_D_j v_at_j v_fault_j v_faultAt_j v_kind_j v_open_j v_size_j v_stop_j v_code_j) (pReader_readDuty_b131 N a1 v_length v_tape s0 s1 v_D v_at v_fault v_faultAt v_kind v_open v_size v_stop v_code) := by
  subst t_N
  subst t_a1
  subst t_v_length
  subst t_v_tape
  subst t_s0
  subst t_s1
  subst t_v_D
  subst t_v_at
  subst t_v_fault
  subst t_v_faultAt
  subst t_v_kind
  subst t_v_open
  subst t_v_size
  subst t_v_stop
  subst t_v_code
  unfold iReader_readDuty_b131 pReader_readDuty_b131
  refine tl_bd1 tl_rfl (fun y29 => ?_)
  refine tl_bd1 (jt_PI (Eq.refl (mD v_D)) (Eq.refl (mI s1))) (fun v_D30 => ?_)
  refine tl_bd1 tl_rfl (fun y31 => ?_)
  refine tl_bd1 (jt_GI (Eq.refl (mD v_D30))) (fun d32 => ?_)
  refine tl_ite (jc_eq (Eq.refl (mI d32)) jlitI_m1) ?_ ?_
  · exact (tl_some (jp2 jlitI_0 (jp2 (Eq.refl (mD v_D30)) (jp2 (Eq.refl (mI v_at)) (jp2 (Eq.refl (mI v_fault)) (jp2 (Eq.refl (mI v_faultAt)) (jp2 (Eq.refl (mI v_kind)) (jp2 (Eq.refl (mI v_open)) (jp2 (Eq.refl (mI v_size)) (jp2 (Eq.refl (mI v_stop)) (Eq.refl (mA v_code))))))))))))
  · exact (tl_some (jp2 jlitI_1 (jp2 (Eq.refl (mD v_D30)) (jp2 (Eq.refl (mI v_at)) (jp2 (Eq.refl (mI v_fault)) (jp2 (Eq.refl (mI v_faultAt)) (jp2 (Eq.refl (mI v_kind)) (jp2 (Eq.refl (mI v_open)) (jp2 (Eq.refl (mI v_size)) (jp2 (Eq.refl (mI v_stop)) (Eq.refl (mA v_code))))))))))))
theorem t_pReader_readDuty_b110 {N N_j : Nat} (t_N : N = N_j) {a1 : (Option Nat)} {a1_j : (Option Nat)} (t_a1 : mO a1 = a1_j) {v_length : Int32} {v_length_j : Int} (t_v_length : mI v_length = v_length_j) {v_tape : (Nat → Int32)} {v_tape_j : (Nat → Int)} (t_v_tape : mA v_tape = v_tape_j) {s0 : Int32} {s0_j : Int} (t_s0 : mI s0 = s0_j) {v_D : Dyn} {v_D_j : DynI} (t_v_D : mD v_D = v_D_j) {v_at : Int32} {v_at_j : Int} (t_v_at : mI v_at = v_at_j) {v_fault : Int32} {v_fault_j : Int} (t_v_fault : mI v_fault = v_fault_j) {v_faultAt : Int32} {v_faultAt_j : Int} (t_v_faultAt : mI v_faultAt = v_faultAt_j) {v_kind : Int32} {v_kind_j : Int} (t_v_kind : mI v_kind = v_kind_j) {v_open : Int32} {v_open_j : Int} (t_v_open : mI v_open = v_open_j) {v_size : Int32} {v_size_j : Int} (t_v_size : mI v_size = v_size_j) {v_stop : Int32} {v_stop_j : Int} (t_v_stop : mI v_stop = v_stop_j) {v_code : (Nat → Int32)} {v_code_j : (Nat → Int)} (t_v_code : mA v_code = v_code_j) : tl (mP mI (mP mD (mP mI (mP mI (mP mI (mP mI (mP mI (mP mI (mP mI mA))))))))) (iReader_readDuty_b110 N_j a1_j v_length_j v_tape_j s0_j v_D_j v_at_j v_fault_j v_faultAt_j v_kind_j v_open_j v_size_j v_stop_j v_code_j) (pReader_readDuty_b110 N a1 v_length v_tape s0 v_D v_at v_fault v_faultAt v_kind v_open v_size v_stop v_code) := by
  subst t_N
  subst t_a1
  subst t_v_length
  subst t_v_tape
  subst t_s0
  subst t_v_D
  subst t_v_at
  subst t_v_fault
  subst t_v_faultAt
  subst t_v_kind
  subst t_v_open
  subst t_v_size
  subst t_v_stop
  subst t_v_code
  unfold iReader_readDuty_b110 pReader_readDuty_b110
  refine tl_ite (jc_eq (Eq.refl (mI s0)) jlitI_0) ?_ ?_
  · exact (t_pReader_readDuty_b131 (Eq.refl N) (Eq.refl (mO a1)) (Eq.refl (mI v_length)) (Eq.refl (mA v_tape)) (Eq.refl (mO a1)) jlitI_m1 (Eq.refl (mD v_D)) (Eq.refl (mI v_at)) (Eq.refl (mI v_fault)) (Eq.refl (mI v_faultAt)) (Eq.refl (mI v_kind)) (Eq.refl (mI v_open)) (Eq.refl (mI v_size)) (Eq.refl (mI v_stop)) (Eq.refl (mA v_code)))
  · refine tl_bd1 tl_rfl (fun y24 => ?_)
    refine tl_bd1 (jt_GI (Eq.refl (mD v_D))) (fun d25 => ?_)
    refine tl_bd6 (t_pReader_readNumber (Eq.refl N) (Eq.refl (mI d25)) jlitI_999 (Eq.refl (mI v_at)) (Eq.refl (mI v_fault)) (Eq.refl (mI v_faultAt)) (Eq.refl (mI v_kind)) (Eq.refl (mI v_length)) (Eq.refl (mI v_stop)) (Eq.refl (mA v_tape))) (fun rc26 v_at_c26 v_fault_c26 v_faultAt_c26 v_kind_c26 v_stop_c26 => ?_)
    exact (t_pReader_readDuty_b131 (Eq.refl N) (Eq.refl (mO a1)) (Eq.refl (mI v_length)) (Eq.refl (mA v_tape)) (congrArg some (Eq.refl y24)) (Eq.refl (mI rc26)) (Eq.refl (mD v_D)) (Eq.refl (mI v_at_c26)) (Eq.refl (mI v_fault_c26)) (Eq.refl (mI v_faultAt_c26)) (Eq.refl (mI v_kind_c26)) (Eq.refl (mI v_open)) (Eq.refl (mI v_size)) (Eq.refl (mI v_stop_c26)) (Eq.refl (mA v_code)))
theorem t_pReader_readDuty_b38 {N N_j : Nat} (t_N : N = N_j) {a1 : (Option Nat)} {a1_j : (Option Nat)} (t_a1 : mO a1 = a1_j) {v_length : Int32} {v_length_j : Int} (t_v_length : mI v_length = v_length_j) {v_tape : (Nat → Int32)} {v_tape_j : (Nat → Int)} (t_v_tape : mA v_tape = v_tape_j) {x2 : Int32} {x2_j : Int} (t_x2 : mI x2 = x2_j) {s0 s0_j : Nat} (t_s0 : s0 = s0_j) {s1 : Int32} {s1_j : Int} (t_s1 : mI s1 = s1_j) {v_D : Dyn} {v_D_j : DynI} (t_v_D : mD v_D = v_D_j) {v_at : Int32} {v_at_j : Int} (t_v_at : mI v_at = v_at_j) {v_fault : Int32} {v_fault_j : Int} (t_v_fault : mI v_fault = v_fault_j) {v_faultAt : Int32} {v_faultAt_j : Int} (t_v_faultAt : mI v_faultAt = v_faultAt_j) {v_kind : Int32} {v_kind_j : Int} (t_v_kind : mI v_kind = v_kind_j) {v_open : Int32} {v_open_j : Int} (t_v_open : mI v_open = v_open_j) {v_size : Int32} {v_size_j : Int} (t_v_size : mI v_size = v_size_j) {v_stop : Int32} {v_stop_j : Int} (t_v_stop : mI v_stop = v_stop_j) {v_code : (Nat → Int32)} {v_code_j : (Nat → Int)} (t_v_code : mA v_code = v_code_j) : tl (mP mI (mP mD (mP mI (mP mI (mP mI (mP mI (mP mI (mP mI (mP mI mA))))))))) (iReader_readDuty_b38 N_j a1_j v_length_j v_tape_j x2_j s0_j s1_j v_D_j v_at_j v_fault_j v_faultAt_j v_kind_j v_open_j v_size_j v_stop_j v_code_j) (pReader_readDuty_b38 N a1 v_length v_tape x2 s0 s1 v_D v_at v_fault v_faultAt v_kind v_open v_size v_stop v_code) := by
  subst t_N
  subst t_a1
  subst t_v_length
  subst t_v_tape
  subst t_x2
  subst t_s0
  subst t_s1
  subst t_v_D
  subst t_v_at
  subst t_v_fault
  subst t_v_faultAt
  subst t_v_kind
  subst t_v_open
  subst t_v_size
  subst t_v_stop
  subst t_v_code
  unfold iReader_readDuty_b38 pReader_readDuty_b38
  refine tl_gd (jg_isB (Eq.refl (mI s1))) (fun _ => ?_)
  refine tl_bd1 (jt_PI (Eq.refl (mD v_D)) (Eq.refl (mI s1))) (fun v_D27 => ?_)
  refine tl_gd (jg_isB (Eq.refl (mI x2))) (fun _ => ?_)
  exact (tl_some (jp2 (Eq.refl (mI x2)) (jp2 (Eq.refl (mD v_D27)) (jp2 (Eq.refl (mI v_at)) (jp2 (Eq.refl (mI v_fault)) (jp2 (Eq.refl (mI v_faultAt)) (jp2 (Eq.refl (mI v_kind)) (jp2 (Eq.refl (mI v_open)) (jp2 (Eq.refl (mI v_size)) (jp2 (Eq.refl (mI v_stop)) (Eq.refl (mA v_code))))))))))))
theorem t_pReader_readDuty {N N_j : Nat} (t_N : N = N_j) {a1 : (Option Nat)} {a1_j : (Option Nat)} (t_a1 : mO a1 = a1_j) {v_D : Dyn} {v_D_j : DynI} (t_v_D : mD v_D = v_D_j) {v_at : Int32} {v_at_j : Int} (t_v_at : mI v_at = v_at_j) {v_fault : Int32} {v_fault_j : Int} (t_v_fault : mI v_fault = v_fault_j) {v_faultAt : Int32} {v_faultAt_j : Int} (t_v_faultAt : mI v_faultAt = v_faultAt_j) {v_kind : Int32} {v_kind_j : Int} (t_v_kind : mI v_kind = v_kind_j) {v_length : Int32} {v_length_j : Int} (t_v_length : mI v_length = v_length_j) {v_open : Int32} {v_open_j : Int} (t_v_open : mI v_open = v_open_j) {v_size : Int32} {v_size_j : Int} (t_v_size : mI v_size = v_size_j) {v_stop : Int32} {v_stop_j : Int} (t_v_stop : mI v_stop = v_stop_j) {v_code : (Nat → Int32)} {v_code_j : (Nat → Int)} (t_v_code : mA v_code = v_code_j) {v_tape : (Nat → Int32)} {v_tape_j : (Nat → Int)} (t_v_tape : mA v_tape = v_tape_j) : tl (mP mI (mP mD (mP mI (mP mI (mP mI (mP mI (mP mI (mP mI (mP mI mA))))))))) (iReader_readDuty N_j a1_j v_D_j v_at_j v_fault_j v_faultAt_j v_kind_j v_length_j v_open_j v_size_j v_stop_j v_code_j v_tape_j) (pReader_readDuty N a1 v_D v_at v_fault v_faultAt v_kind v_length v_open v_size v_stop v_code v_tape) := by
  subst t_N
  subst t_a1
  subst t_v_D
  subst t_v_at
  subst t_v_fault
  subst t_v_faultAt
  subst t_v_kind
  subst t_v_length
  subst t_v_open
  subst t_v_size
  subst t_v_stop
  subst t_v_code
  subst t_v_tape
  unfold iReader_readDuty pReader_readDuty
  refine tl_bd4 (t_pReader_takeWord (Eq.refl N) (Eq.refl _) (Eq.refl (mI v_at)) (Eq.refl (mI v_kind)) (Eq.refl (mI v_length)) (Eq.refl (mI v_stop)) (Eq.refl (mA v_tape))) (fun rc1 v_at_c1 v_kind_c1 v_stop_c1 => ?_)
  refine tl_ite (jc_eq (Eq.refl (mI rc1)) jlitI_0) ?_ ?_
  · refine tl_bd4 (t_pReader_takeWord (Eq.refl N) (Eq.refl _) (Eq.refl (mI v_at_c1)) (Eq.refl (mI v_kind_c1)) (Eq.refl (mI v_length)) (Eq.refl (mI v_stop_c1)) (Eq.refl (mA v_tape))) (fun rc2 v_at_c2 v_kind_c2 v_stop_c2 => ?_)
    refine tl_ite (jc_eq (Eq.refl (mI rc2)) jlitI_0) ?_ ?_
    · refine tl_bd4 (t_pReader_takeWord (Eq.refl N) (Eq.refl _) (Eq.refl (mI v_at_c2)) (Eq.refl (mI v_kind_c2)) (Eq.refl (mI v_length)) (Eq.refl (mI v_stop_c2)) (Eq.refl (mA v_tape))) (fun rc3 v_at_c3 v_kind_c3 v_stop_c3 => ?_)
      refine tl_ite (jc_eq (Eq.refl (mI rc3)) jlitI_0) ?_ ?_
      · refine tl_bd4 (t_pReader_takeWord (Eq.refl N) (Eq.refl _) (Eq.refl (mI v_at_c3)) (Eq.refl (mI v_kind_c3)) (Eq.refl (mI v_length)) (Eq.refl (mI v_stop_c3)) (Eq.refl (mA v_tape))) (fun rc4 v_at_c4 v_kind_c4 v_stop_c4 => ?_)
        refine tl_ite (jc_eq (Eq.refl (mI rc4)) jlitI_0) ?_ ?_
        · refine tl_bd3 (t_pReader_fail jlitI_1 (Eq.refl (mI v_at_c4)) (Eq.refl (mI v_fault)) (Eq.refl (mI v_faultAt))) (fun rc5 v_fault_c5 v_faultAt_c5 => ?_)
          refine tl_gd (jg_isB (Eq.refl (mI rc5))) (fun _ => ?_)
          exact (tl_some (jp2 (Eq.refl (mI rc5)) (jp2 (Eq.refl (mD v_D)) (jp2 (Eq.refl (mI v_at_c4)) (jp2 (Eq.refl (mI v_fault_c5)) (jp2 (Eq.refl (mI v_faultAt_c5)) (jp2 (Eq.refl (mI v_kind_c4)) (jp2 (Eq.refl (mI v_open)) (jp2 (Eq.refl (mI v_size)) (jp2 (Eq.refl (mI v_stop_c4)) (Eq.refl (mA v_code))))))))))))
        · refine tl_bd1 tl_rfl (fun y6 => ?_)
          refine tl_bd1 (jt_PI (Eq.refl (mD v_D)) jlitI_4) (fun v_D7 => ?_)
          refine tl_bd6 (t_pReader_readNumber (Eq.refl N) jlitI_2 jlitI_20 (Eq.refl (mI v_at_c4)) (Eq.refl (mI v_fault)) (Eq.refl (mI v_faultAt)) (Eq.refl (mI v_kind_c4)) (Eq.refl (mI v_length)) (Eq.refl (mI v_stop_c4)) (Eq.refl (mA v_tape))) (fun rc8 v_at_c8 v_fault_c8 v_faultAt_c8 v_kind_c8 v_stop_c8 => ?_)
          refine tl_bd1 (jt_PI (Eq.refl (mD v_D7)) (Eq.refl (mI rc8))) (fun v_D9 => ?_)
          refine tl_bd1 (jt_GI (Eq.refl (mD v_D9))) (fun d10 => ?_)
          refine tl_ite (jc_eq (Eq.refl (mI d10)) jlitI_m1) ?_ ?_
          · exact (tl_some (jp2 jlitI_0 (jp2 (Eq.refl (mD v_D9)) (jp2 (Eq.refl (mI v_at_c8)) (jp2 (Eq.refl (mI v_fault_c8)) (jp2 (Eq.refl (mI v_faultAt_c8)) (jp2 (Eq.refl (mI v_kind_c8)) (jp2 (Eq.refl (mI v_open)) (jp2 (Eq.refl (mI v_size)) (jp2 (Eq.refl (mI v_stop_c8)) (Eq.refl (mA v_code))))))))))))
          · exact (tl_some (jp2 jlitI_1 (jp2 (Eq.refl (mD v_D9)) (jp2 (Eq.refl (mI v_at_c8)) (jp2 (Eq.refl (mI v_fault_c8)) (jp2 (Eq.refl (mI v_faultAt_c8)) (jp2 (Eq.refl (mI v_kind_c8)) (jp2 (Eq.refl (mI v_open)) (jp2 (Eq.refl (mI v_size)) (jp2 (Eq.refl (mI v_stop_c8)) (Eq.refl (mA v_code))))))))))))
      · refine tl_bd1 tl_rfl (fun y11 => ?_)
        refine tl_bd1 (jt_PI (Eq.refl (mD v_D)) jlitI_3) (fun v_D12 => ?_)
        refine tl_bd6 (t_pReader_readNumber (Eq.refl N) jlitI_1 jlitI_999 (Eq.refl (mI v_at_c3)) (Eq.refl (mI v_fault)) (Eq.refl (mI v_faultAt)) (Eq.refl (mI v_kind_c3)) (Eq.refl (mI v_length)) (Eq.refl (mI v_stop_c3)) (Eq.refl (mA v_tape))) (fun rc13 v_at_c13 v_fault_c13 v_faultAt_c13 v_kind_c13 v_stop_c13 => ?_)
        refine tl_bd1 (jt_PI (Eq.refl (mD v_D12)) (Eq.refl (mI rc13))) (fun v_D14 => ?_)
        refine tl_bd1 (jt_GI (Eq.refl (mD v_D14))) (fun d15 => ?_)
        refine tl_ite (jc_eq (Eq.refl (mI d15)) jlitI_m1) ?_ ?_
        · exact (t_pReader_readDuty_b110 (Eq.refl N) (Eq.refl (mO a1)) (Eq.refl (mI v_length)) (Eq.refl (mA v_tape)) jlitI_0 (Eq.refl (mD v_D14)) (Eq.refl (mI v_at_c13)) (Eq.refl (mI v_fault_c13)) (Eq.refl (mI v_faultAt_c13)) (Eq.refl (mI v_kind_c13)) (Eq.refl (mI v_open)) (Eq.refl (mI v_size)) (Eq.refl (mI v_stop_c13)) (Eq.refl (mA v_code)))
        · refine tl_bd6 (t_pReader_needWord (Eq.refl N) (Eq.refl _) (Eq.refl (mI v_at_c13)) (Eq.refl (mI v_fault_c13)) (Eq.refl (mI v_faultAt_c13)) (Eq.refl (mI v_kind_c13)) (Eq.refl (mI v_length)) (Eq.refl (mI v_stop_c13)) (Eq.refl (mA v_tape))) (fun rc16 v_at_c16 v_fault_c16 v_faultAt_c16 v_kind_c16 v_stop_c16 => ?_)
          refine tl_ite (jc_eq (Eq.refl (mI rc16)) jlitI_0) ?_ ?_
          · exact (t_pReader_readDuty_b110 (Eq.refl N) (Eq.refl (mO a1)) (Eq.refl (mI v_length)) (Eq.refl (mA v_tape)) jlitI_0 (Eq.refl (mD v_D14)) (Eq.refl (mI v_at_c16)) (Eq.refl (mI v_fault_c16)) (Eq.refl (mI v_faultAt_c16)) (Eq.refl (mI v_kind_c16)) (Eq.refl (mI v_open)) (Eq.refl (mI v_size)) (Eq.refl (mI v_stop_c16)) (Eq.refl (mA v_code)))
          · exact (t_pReader_readDuty_b110 (Eq.refl N) (Eq.refl (mO a1)) (Eq.refl (mI v_length)) (Eq.refl (mA v_tape)) jlitI_1 (Eq.refl (mD v_D14)) (Eq.refl (mI v_at_c16)) (Eq.refl (mI v_fault_c16)) (Eq.refl (mI v_faultAt_c16)) (Eq.refl (mI v_kind_c16)) (Eq.refl (mI v_open)) (Eq.refl (mI v_size)) (Eq.refl (mI v_stop_c16)) (Eq.refl (mA v_code)))
    · refine tl_bd1 tl_rfl (fun y17 => ?_)
      refine tl_bd1 (jt_PI (Eq.refl (mD v_D)) jlitI_2) (fun v_D18 => ?_)
      refine tl_bd9 (t_pReader_readSum (Eq.refl N) (Eq.refl (mI v_at_c2)) (Eq.refl (mI v_fault)) (Eq.refl (mI v_faultAt)) (Eq.refl (mI v_kind_c2)) (Eq.refl (mI v_length)) (Eq.refl (mI v_open)) (Eq.refl (mI v_size)) (Eq.refl (mI v_stop_c2)) (Eq.refl (mA v_code)) (Eq.refl (mA v_tape))) (fun rc19 v_at_c19 v_fault_c19 v_faultAt_c19 v_kind_c19 v_open_c19 v_size_c19 v_stop_c19 v_code_c19 => ?_)
      refine tl_gd (jg_isB (Eq.refl (mI rc19))) (fun _ => ?_)
      exact (tl_some (jp2 (Eq.refl (mI rc19)) (jp2 (Eq.refl (mD v_D18)) (jp2 (Eq.refl (mI v_at_c19)) (jp2 (Eq.refl (mI v_fault_c19)) (jp2 (Eq.refl (mI v_faultAt_c19)) (jp2 (Eq.refl (mI v_kind_c19)) (jp2 (Eq.refl (mI v_open_c19)) (jp2 (Eq.refl (mI v_size_c19)) (jp2 (Eq.refl (mI v_stop_c19)) (Eq.refl (mA v_code_c19))))))))))))
  · refine tl_bd1 tl_rfl (fun y20 => ?_)
    refine tl_bd1 (jt_PI (Eq.refl (mD v_D)) jlitI_1) (fun v_D21 => ?_)
    refine tl_bd9 (t_pReader_readSum (Eq.refl N) (Eq.refl (mI v_at_c1)) (Eq.refl (mI v_fault)) (Eq.refl (mI v_faultAt)) (Eq.refl (mI v_kind_c1)) (Eq.refl (mI v_length)) (Eq.refl (mI v_open)) (Eq.refl (mI v_size)) (Eq.refl (mI v_stop_c1)) (Eq.refl (mA v_code)) (Eq.refl (mA v_tape))) (fun rc22 v_at_c22 v_fault_c22 v_faultAt_c22 v_kind_c22 v_open_c22 v_size_c22 v_stop_c22 v_code_c22 => ?_)
    refine tl_ite (jc_eq (Eq.refl (mI rc22)) jlitI_0) ?_ ?_
    · exact (t_pReader_readDuty_b38 (Eq.refl N) (Eq.refl (mO a1)) (Eq.refl (mI v_length)) (Eq.refl (mA v_tape)) (Eq.refl (mI rc22)) (Eq.refl y20) jlitI_0 (Eq.refl (mD v_D21)) (Eq.refl (mI v_at_c22)) (Eq.refl (mI v_fault_c22)) (Eq.refl (mI v_faultAt_c22)) (Eq.refl (mI v_kind_c22)) (Eq.refl (mI v_open_c22)) (Eq.refl (mI v_size_c22)) (Eq.refl (mI v_stop_c22)) (Eq.refl (mA v_code_c22)))
    · refine tl_bd4 (t_pReader_takeWord (Eq.refl N) (Eq.refl _) (Eq.refl (mI v_at_c22)) (Eq.refl (mI v_kind_c22)) (Eq.refl (mI v_length)) (Eq.refl (mI v_stop_c22)) (Eq.refl (mA v_tape))) (fun rc23 v_at_c23 v_kind_c23 v_stop_c23 => ?_)
      refine tl_ite (jc_eq (Eq.refl (mI rc23)) jlitI_0) ?_ ?_
      · exact (t_pReader_readDuty_b38 (Eq.refl N) (Eq.refl (mO a1)) (Eq.refl (mI v_length)) (Eq.refl (mA v_tape)) (Eq.refl (mI rc22)) (Eq.refl y20) jlitI_0 (Eq.refl (mD v_D21)) (Eq.refl (mI v_at_c23)) (Eq.refl (mI v_fault_c22)) (Eq.refl (mI v_faultAt_c22)) (Eq.refl (mI v_kind_c23)) (Eq.refl (mI v_open_c22)) (Eq.refl (mI v_size_c22)) (Eq.refl (mI v_stop_c23)) (Eq.refl (mA v_code_c22)))
      · exact (t_pReader_readDuty_b38 (Eq.refl N) (Eq.refl (mO a1)) (Eq.refl (mI v_length)) (Eq.refl (mA v_tape)) (Eq.refl (mI rc22)) (Eq.refl y20) jlitI_1 (Eq.refl (mD v_D21)) (Eq.refl (mI v_at_c23)) (Eq.refl (mI v_fault_c22)) (Eq.refl (mI v_faultAt_c22)) (Eq.refl (mI v_kind_c23)) (Eq.refl (mI v_open_c22)) (Eq.refl (mI v_size_c22)) (Eq.refl (mI v_stop_c23)) (Eq.refl (mA v_code_c22)))
theorem t_pReader_readBoth_b7_F {N N_j : Nat} (t_N : N = N_j) {rec : Nat → Int32 → Int32 → Int32 → Int32 → Int32 → Int32 → Int32 → (Nat → Int32) → Option R_pReader_readBoth} {rec_j : Nat → Int → Int → Int → Int → Int → Int → Int → (Nat → Int) → Option R_iReader_readBoth} (t_rec : ∀ (q0_ : Nat) (q1_ : Int32) (q2_ : Int32) (q3_ : Int32) (q4_ : Int32) (q5_ : Int32) (q6_ : Int32) (q7_ : Int32) (q8_ : (Nat → Int32)), tl (mP mI (mP mI (mP mI (mP mI (mP mI (mP mI (mP mI (mP mI mA)))))))) (rec_j q0_ (mI q1_) (mI q2_) (mI q3_) (mI q4_) (mI q5_) (mI q6_) (mI q7_) (mA q8_)) (rec q0_ q1_ q2_ q3_ q4_ q5_ q6_ q7_ q8_)) {v_length : Int32} {v_length_j : Int} (t_v_length : mI v_length = v_length_j) {v_tape : (Nat → Int32)} {v_tape_j : (Nat → Int)} (t_v_tape : mA v_tape = v_tape_j) {self : Int32 → Int32 → Int32 → Int32 → Int32 → Int32 → Int32 → Int32 → Int32 → (Nat → Int32) → Option R_pReader_readBoth} {self_j : Int → Int → Int → Int → Int → Int → Int → Int → Int → (Nat → Int) → Option R_iReader_readBoth} (t_self : ∀ (q0_ : Int32) (q1_ : Int32) (q2_ : Int32) (q3_ : Int32) (q4_ : Int32) (q5_ : Int32) (q6_ : Int32) (q7_ : Int32) (q8_ : Int32) (q9_ : (Nat → Int32)), tl (mP mI (mP mI (mP mI (mP mI (mP mI (mP mI (mP mI (mP mI mA)))))))) (self_j (mI q0_) (mI q1_) (mI q2_) (mI q3_) (mI q4_) (mI q5_) (mI q6_) (mI q7_) (mI q8_) (mA q9_)) (self q0_ q1_ q2_ q3_ q4_ q5_ q6_ q7_ q8_ q9_)) {x1 : Int32} {x1_j : Int} (t_x1 : mI x1 = x1_j) {x2 : Int32} {x2_j : Int} (t_x2 : mI x2 = x2_j) {v_at : Int32} {v_at_j : Int} (t_v_at : mI v_at = v_at_j) {v_fault : Int32} {v_fault_j : Int} (t_v_fault : mI v_fault = v_fault_j) {v_faultAt : Int32} {v_faultAt_j : Int} (t_v_faultAt : mI v_faultAt = v_faultAt_j) {v_kind : Int32} {v_kind_j : Int} (t_v_kind : mI v_kind = v_kind_j) {v_open : Int32} {v_open_j : Int} (t_v_open : mI v_open = v_open_j) {v_size : Int32} {v_size_j : Int} (t_v_size : mI v_size = v_size_j) {v_stop : Int32} {v_stop_j : Int} (t_v_stop : mI v_stop = v_stop_j) {v_code : (Nat → Int32)} {v_code_j : (Nat → Int)} (t_v_code : mA v_code = v_code_j) : tl (mP mI (mP mI (mP mI (mP mI (mP mI (mP mI (mP mI (mP mI mA)))))))) (iReader_readBoth_b7_F N_j rec_j v_length_j v_tape_j self_j x1_j x2_j v_at_j v_fault_j v_faultAt_j v_kind_j v_open_j v_size_j v_stop_j v_code_j) (pReader_readBoth_b7_F N rec v_length v_tape self x1 x2 v_at v_fault v_faultAt v_kind v_open v_size v_stop v_code) := by
  subst t_N
  subst t_v_length
  subst t_v_tape
  subst t_x1
  subst t_x2
  subst t_v_at
  subst t_v_fault
  subst t_v_faultAt
  subst t_v_kind
  subst t_v_open
  subst t_v_size
  subst t_v_stop
  subst t_v_code
  unfold iReader_readBoth_b7_F pReader_readBoth_b7_F
  refine tl_ite (jc_le jlitI_600 (Eq.refl (mI x2))) ?_ ?_
  · refine tl_gd (jg_isB (Eq.refl (mI x1))) (fun _ => ?_)
    exact (tl_some (jp2 (Eq.refl (mI x1)) (jp2 (Eq.refl (mI v_at)) (jp2 (Eq.refl (mI v_fault)) (jp2 (Eq.refl (mI v_faultAt)) (jp2 (Eq.refl (mI v_kind)) (jp2 (Eq.refl (mI v_open)) (jp2 (Eq.refl (mI v_size)) (jp2 (Eq.refl (mI v_stop)) (Eq.refl (mA v_code)))))))))))
  · refine tl_ite (jc_eq (Eq.refl (mI x1)) jlitI_0) ?_ ?_
    · refine tl_gd (jg_isB (Eq.refl (mI x1))) (fun _ => ?_)
      exact (tl_some (jp2 (Eq.refl (mI x1)) (jp2 (Eq.refl (mI v_at)) (jp2 (Eq.refl (mI v_fault)) (jp2 (Eq.refl (mI v_faultAt)) (jp2 (Eq.refl (mI v_kind)) (jp2 (Eq.refl (mI v_open)) (jp2 (Eq.refl (mI v_size)) (jp2 (Eq.refl (mI v_stop)) (Eq.refl (mA v_code)))))))))))
    · refine tl_bd4 (t_pReader_takeWord (Eq.refl N) (Eq.refl _) (Eq.refl (mI v_at)) (Eq.refl (mI v_kind)) (Eq.refl (mI v_length)) (Eq.refl (mI v_stop)) (Eq.refl (mA v_tape))) (fun rc2 v_at_c2 v_kind_c2 v_stop_c2 => ?_)
      refine tl_ite (jc_eq (Eq.refl (mI rc2)) jlitI_0) ?_ ?_
      · refine tl_gd (jg_isB (Eq.refl (mI x1))) (fun _ => ?_)
        exact (tl_some (jp2 (Eq.refl (mI x1)) (jp2 (Eq.refl (mI v_at_c2)) (jp2 (Eq.refl (mI v_fault)) (jp2 (Eq.refl (mI v_faultAt)) (jp2 (Eq.refl (mI v_kind_c2)) (jp2 (Eq.refl (mI v_open)) (jp2 (Eq.refl (mI v_size)) (jp2 (Eq.refl (mI v_stop_c2)) (Eq.refl (mA v_code)))))))))))
      · refine tl_bd9 (tl_e8 (f2 := rec_j 1) (Eq.refl (mI v_at_c2)) (Eq.refl (mI v_fault)) (Eq.refl (mI v_faultAt)) (Eq.refl (mI v_kind_c2)) (Eq.refl (mI v_open)) (Eq.refl (mI v_size)) (Eq.refl (mI v_stop_c2)) (Eq.refl (mA v_code)) (t_rec 1 _ _ _ _ _ _ _ _)) (fun rc3 v_at_c3 v_fault_c3 v_faultAt_c3 v_kind_c3 v_open_c3 v_size_c3 v_stop_c3 v_code_c3 => ?_)
        refine tl_ite (jc_eq (Eq.refl (mI rc3)) jlitI_0) ?_ ?_
        · refine tl_g (fun h1 => ?_)
          exact (tl_e10 jlitI_0 (ja_add (Eq.refl (mI x2)) jlitI_1 h1) (Eq.refl (mI v_at_c3)) (Eq.refl (mI v_fault_c3)) (Eq.refl (mI v_faultAt_c3)) (Eq.refl (mI v_kind_c3)) (Eq.refl (mI v_open_c3)) (Eq.refl (mI v_size_c3)) (Eq.refl (mI v_stop_c3)) (Eq.refl (mA v_code_c3)) (t_self _ _ _ _ _ _ _ _ _ _))
        · refine tl_bd5 (t_pReader_emit jlitI_m16 (Eq.refl (mI v_at_c3)) (Eq.refl (mI v_fault_c3)) (Eq.refl (mI v_faultAt_c3)) (Eq.refl (mI v_size_c3)) (Eq.refl (mA v_code_c3))) (fun rc4 v_fault_c4 v_faultAt_c4 v_size_c4 v_code_c4 => ?_)
          refine tl_ite (jc_eq (Eq.refl (mI rc4)) jlitI_0) ?_ ?_
          · refine tl_g (fun h2 => ?_)
            exact (tl_e10 jlitI_0 (ja_add (Eq.refl (mI x2)) jlitI_1 h2) (Eq.refl (mI v_at_c3)) (Eq.refl (mI v_fault_c4)) (Eq.refl (mI v_faultAt_c4)) (Eq.refl (mI v_kind_c3)) (Eq.refl (mI v_open_c3)) (Eq.refl (mI v_size_c4)) (Eq.refl (mI v_stop_c3)) (Eq.refl (mA v_code_c4)) (t_self _ _ _ _ _ _ _ _ _ _))
          · refine tl_g (fun h3 => ?_)
            exact (tl_e10 jlitI_1 (ja_add (Eq.refl (mI x2)) jlitI_1 h3) (Eq.refl (mI v_at_c3)) (Eq.refl (mI v_fault_c4)) (Eq.refl (mI v_faultAt_c4)) (Eq.refl (mI v_kind_c3)) (Eq.refl (mI v_open_c3)) (Eq.refl (mI v_size_c4)) (Eq.refl (mI v_stop_c3)) (Eq.refl (mA v_code_c4)) (t_self _ _ _ _ _ _ _ _ _ _))
theorem t_pReader_readBoth_b7 {N N_j : Nat} (t_N : N = N_j) {rec : Nat → Int32 → Int32 → Int32 → Int32 → Int32 → Int32 → Int32 → (Nat → Int32) → Option R_pReader_readBoth} {rec_j : Nat → Int → Int → Int → Int → Int → Int → Int → (Nat → Int) → Option R_iReader_readBoth} (t_rec : ∀ (q0_ : Nat) (q1_ : Int32) (q2_ : Int32) (q3_ : Int32) (q4_ : Int32) (q5_ : Int32) (q6_ : Int32) (q7_ : Int32) (q8_ : (Nat → Int32)), tl (mP mI (mP mI (mP mI (mP mI (mP mI (mP mI (mP mI (mP mI mA)))))))) (rec_j q0_ (mI q1_) (mI q2_) (mI q3_) (mI q4_) (mI q5_) (mI q6_) (mI q7_) (mA q8_)) (rec q0_ q1_ q2_ q3_ q4_ q5_ q6_ q7_ q8_)) {v_length : Int32} {v_length_j : Int} (t_v_length : mI v_length = v_length_j) {v_tape : (Nat → Int32)} {v_tape_j : (Nat → Int)} (t_v_tape : mA v_tape = v_tape_j) {n n_j : Nat} (t_n : n = n_j) {w0_ : Int32} {w0__j : Int} (t_w0_ : mI w0_ = w0__j) {w1_ : Int32} {w1__j : Int} (t_w1_ : mI w1_ = w1__j) {w2_ : Int32} {w2__j : Int} (t_w2_ : mI w2_ = w2__j) {w3_ : Int32} {w3__j : Int} (t_w3_ : mI w3_ = w3__j) {w4_ : Int32} {w4__j : Int} (t_w4_ : mI w4_ = w4__j) {w5_ : Int32} {w5__j : Int} (t_w5_ : mI w5_ = w5__j) {w6_ : Int32} {w6__j : Int} (t_w6_ : mI w6_ = w6__j) {w7_ : Int32} {w7__j : Int} (t_w7_ : mI w7_ = w7__j) {w8_ : Int32} {w8__j : Int} (t_w8_ : mI w8_ = w8__j) {w9_ : (Nat → Int32)} {w9__j : (Nat → Int)} (t_w9_ : mA w9_ = w9__j) : tl (mP mI (mP mI (mP mI (mP mI (mP mI (mP mI (mP mI (mP mI mA)))))))) (iReader_readBoth_b7 N_j rec_j v_length_j v_tape_j n_j w0__j w1__j w2__j w3__j w4__j w5__j w6__j w7__j w8__j w9__j) (pReader_readBoth_b7 N rec v_length v_tape n w0_ w1_ w2_ w3_ w4_ w5_ w6_ w7_ w8_ w9_) := by
  subst t_N
  subst t_v_length
  subst t_v_tape
  subst t_n
  subst t_w0_
  subst t_w1_
  subst t_w2_
  subst t_w3_
  subst t_w4_
  subst t_w5_
  subst t_w6_
  subst t_w7_
  subst t_w8_
  subst t_w9_
  exact tl_zlp10 (fun s2 s hs w0_ w1_ w2_ w3_ w4_ w5_ w6_ w7_ w8_ w9_ => t_pReader_readBoth_b7_F (Eq.refl N) t_rec (Eq.refl (mI v_length)) (Eq.refl (mA v_tape)) hs (Eq.refl (mI w0_)) (Eq.refl (mI w1_)) (Eq.refl (mI w2_)) (Eq.refl (mI w3_)) (Eq.refl (mI w4_)) (Eq.refl (mI w5_)) (Eq.refl (mI w6_)) (Eq.refl (mI w7_)) (Eq.refl (mI w8_)) (Eq.refl (mA w9_))) n w0_ w1_ w2_ w3_ w4_ w5_ w6_ w7_ w8_ w9_
theorem t_pReader_readBoth_G {N N_j : Nat} (t_N : N = N_j) {rec : Nat → Int32 → Int32 → Int32 → Int32 → Int32 → Int32 → Int32 → (Nat → Int32) → Option R_pReader_readBoth} {rec_j : Nat → Int → Int → Int → Int → Int → Int → Int → (Nat → Int) → Option R_iReader_readBoth} (t_rec : ∀ (q0_ : Nat) (q1_ : Int32) (q2_ : Int32) (q3_ : Int32) (q4_ : Int32) (q5_ : Int32) (q6_ : Int32) (q7_ : Int32) (q8_ : (Nat → Int32)), tl (mP mI (mP mI (mP mI (mP mI (mP mI (mP mI (mP mI (mP mI mA)))))))) (rec_j q0_ (mI q1_) (mI q2_) (mI q3_) (mI q4_) (mI q5_) (mI q6_) (mI q7_) (mA q8_)) (rec q0_ q1_ q2_ q3_ q4_ q5_ q6_ q7_ q8_)) {v_length : Int32} {v_length_j : Int} (t_v_length : mI v_length = v_length_j) {v_tape : (Nat → Int32)} {v_tape_j : (Nat → Int)} (t_v_tape : mA v_tape = v_tape_j) {v_at : Int32} {v_at_j : Int} (t_v_at : mI v_at = v_at_j) {v_fault : Int32} {v_fault_j : Int} (t_v_fault : mI v_fault = v_fault_j) {v_faultAt : Int32} {v_faultAt_j : Int} (t_v_faultAt : mI v_faultAt = v_faultAt_j) {v_kind : Int32} {v_kind_j : Int} (t_v_kind : mI v_kind = v_kind_j) {v_open : Int32} {v_open_j : Int} (t_v_open : mI v_open = v_open_j) {v_size : Int32} {v_size_j : Int} (t_v_size : mI v_size = v_size_j) {v_stop : Int32} {v_stop_j : Int} (t_v_stop : mI v_stop = v_stop_j) {v_code : (Nat → Int32)} {v_code_j : (Nat → Int)} (t_v_code : mA v_code = v_code_j) : tl (mP mI (mP mI (mP mI (mP mI (mP mI (mP mI (mP mI (mP mI mA)))))))) (iReader_readBoth_G N_j rec_j v_length_j v_tape_j v_at_j v_fault_j v_faultAt_j v_kind_j v_open_j v_size_j v_stop_j v_code_j) (pReader_readBoth_G N rec v_length v_tape v_at v_fault v_faultAt v_kind v_open v_size v_stop v_code) := by
  subst t_N
  subst t_v_length
  subst t_v_tape
  subst t_v_at
  subst t_v_fault
  subst t_v_faultAt
  subst t_v_kind
  subst t_v_open
  subst t_v_size
  subst t_v_stop
  subst t_v_code
  unfold iReader_readBoth_G pReader_readBoth_G
  refine tl_bd9 (tl_e8 (f2 := rec_j 1) (Eq.refl (mI v_at)) (Eq.refl (mI v_fault)) (Eq.refl (mI v_faultAt)) (Eq.refl (mI v_kind)) (Eq.refl (mI v_open)) (Eq.refl (mI v_size)) (Eq.refl (mI v_stop)) (Eq.refl (mA v_code)) (t_rec 1 _ _ _ _ _ _ _ _)) (fun rc1 v_at_c1 v_fault_c1 v_faultAt_c1 v_kind_c1 v_open_c1 v_size_c1 v_stop_c1 v_code_c1 => ?_)
  exact (t_pReader_readBoth_b7 (Eq.refl N) t_rec (Eq.refl (mI v_length)) (Eq.refl (mA v_tape)) (Eq.refl N) (Eq.refl (mI rc1)) jlitI_0 (Eq.refl (mI v_at_c1)) (Eq.refl (mI v_fault_c1)) (Eq.refl (mI v_faultAt_c1)) (Eq.refl (mI v_kind_c1)) (Eq.refl (mI v_open_c1)) (Eq.refl (mI v_size_c1)) (Eq.refl (mI v_stop_c1)) (Eq.refl (mA v_code_c1)))
theorem t_pReader_readFact_b209 {N N_j : Nat} (t_N : N = N_j) {rec : Nat → Int32 → Int32 → Int32 → Int32 → Int32 → Int32 → Int32 → (Nat → Int32) → Option R_pReader_readFact} {rec_j : Nat → Int → Int → Int → Int → Int → Int → Int → (Nat → Int) → Option R_iReader_readFact} (t_rec : ∀ (q0_ : Nat) (q1_ : Int32) (q2_ : Int32) (q3_ : Int32) (q4_ : Int32) (q5_ : Int32) (q6_ : Int32) (q7_ : Int32) (q8_ : (Nat → Int32)), tl (mP mI (mP mI (mP mI (mP mI (mP mI (mP mI (mP mI (mP mI mA)))))))) (rec_j q0_ (mI q1_) (mI q2_) (mI q3_) (mI q4_) (mI q5_) (mI q6_) (mI q7_) (mA q8_)) (rec q0_ q1_ q2_ q3_ q4_ q5_ q6_ q7_ q8_)) {v_length : Int32} {v_length_j : Int} (t_v_length : mI v_length = v_length_j) {v_tape : (Nat → Int32)} {v_tape_j : (Nat → Int)} (t_v_tape : mA v_tape = v_tape_j) {s0 : Int32} {s0_j : Int} (t_s0 : mI s0 = s0_j) {v_at : Int32} {v_at_j : Int} (t_v_at : mI v_at = v_at_j) {v_fault : Int32} {v_fault_j : Int} (t_v_fault : mI v_fault = v_fault_j) {v_faultAt : Int32} {v_faultAt_j : Int} (t_v_faultAt : mI v_faultAt = v_faultAt_j) {v_kind : Int32} {v_kind_j : Int} (t_v_kind : mI v_kind = v_kind_j) {v_open : Int32} {v_open_j : Int} (t_v_open : mI v_open = v_open_j) {v_size : Int32} {v_size_j : Int} (t_v_size : mI v_size = v_size_j) {v_stop : Int32} {v_stop_j : Int} (t_v_stop : mI v_stop = v_stop_j) {v_code : (Nat → Int32)} {v_code_j : (Nat → Int)} (t_v_code : mA v_code = v_code_j) : tl (mP mI (mP mI (mP mI (mP mI (mP mI (mP mI (mP mI (mP mI mA)))))))) (iReader_readFact_b209 N_j rec_j v_length_j v_tape_j s0_j v_at_j v_fault_j v_faultAt_j v_kind_j v_open_j v_size_j v_stop_j v_code_j) (pReader_readFact_b209 N rec v_length v_tape s0 v_at v_fault v_faultAt v_kind v_open v_size v_stop v_code) := by
  subst t_N
  subst t_v_length
  subst t_v_tape
  subst t_s0
  subst t_v_at
  subst t_v_fault
  subst t_v_faultAt
  subst t_v_kind
  subst t_v_open
  subst t_v_size
  subst t_v_stop
  subst t_v_code
  unfold iReader_readFact_b209 pReader_readFact_b209
  refine tl_ite (jc_eq (Eq.refl (mI s0)) jlitI_0) ?_ ?_
  · refine tl_bd3 (t_pReader_fail jlitI_1 (Eq.refl (mI v_at)) (Eq.refl (mI v_fault)) (Eq.refl (mI v_faultAt))) (fun rc23 v_fault_c23 v_faultAt_c23 => ?_)
    refine tl_gd (jg_isB (Eq.refl (mI rc23))) (fun _ => ?_)
    exact (tl_some (jp2 (Eq.refl (mI rc23)) (jp2 (Eq.refl (mI v_at)) (jp2 (Eq.refl (mI v_fault_c23)) (jp2 (Eq.refl (mI v_faultAt_c23)) (jp2 (Eq.refl (mI v_kind)) (jp2 (Eq.refl (mI v_open)) (jp2 (Eq.refl (mI v_size)) (jp2 (Eq.refl (mI v_stop)) (Eq.refl (mA v_code)))))))))))
  · refine tl_bd9 (t_pReader_readSum (Eq.refl N) (Eq.refl (mI v_at)) (Eq.refl (mI v_fault)) (Eq.refl (mI v_faultAt)) (Eq.refl (mI v_kind)) (Eq.refl (mI v_length)) (Eq.refl (mI v_open)) (Eq.refl (mI v_size)) (Eq.refl (mI v_stop)) (Eq.refl (mA v_code)) (Eq.refl (mA v_tape))) (fun rc21 v_at_c21 v_fault_c21 v_faultAt_c21 v_kind_c21 v_open_c21 v_size_c21 v_stop_c21 v_code_c21 => ?_)
    refine tl_ite (jc_eq (Eq.refl (mI rc21)) jlitI_0) ?_ ?_
    · exact (tl_some (jp2 jlitI_0 (jp2 (Eq.refl (mI v_at_c21)) (jp2 (Eq.refl (mI v_fault_c21)) (jp2 (Eq.refl (mI v_faultAt_c21)) (jp2 (Eq.refl (mI v_kind_c21)) (jp2 (Eq.refl (mI v_open_c21)) (jp2 (Eq.refl (mI v_size_c21)) (jp2 (Eq.refl (mI v_stop_c21)) (Eq.refl (mA v_code_c21)))))))))))
    · refine tl_bd5 (t_pReader_emit (Eq.refl (mI s0)) (Eq.refl (mI v_at_c21)) (Eq.refl (mI v_fault_c21)) (Eq.refl (mI v_faultAt_c21)) (Eq.refl (mI v_size_c21)) (Eq.refl (mA v_code_c21))) (fun rc22 v_fault_c22 v_faultAt_c22 v_size_c22 v_code_c22 => ?_)
      refine tl_ite (jc_eq (Eq.refl (mI rc22)) jlitI_0) ?_ ?_
      · exact (tl_some (jp2 jlitI_0 (jp2 (Eq.refl (mI v_at_c21)) (jp2 (Eq.refl (mI v_fault_c22)) (jp2 (Eq.refl (mI v_faultAt_c22)) (jp2 (Eq.refl (mI v_kind_c21)) (jp2 (Eq.refl (mI v_open_c21)) (jp2 (Eq.refl (mI v_size_c22)) (jp2 (Eq.refl (mI v_stop_c21)) (Eq.refl (mA v_code_c22)))))))))))
      · exact (tl_some (jp2 jlitI_1 (jp2 (Eq.refl (mI v_at_c21)) (jp2 (Eq.refl (mI v_fault_c22)) (jp2 (Eq.refl (mI v_faultAt_c22)) (jp2 (Eq.refl (mI v_kind_c21)) (jp2 (Eq.refl (mI v_open_c21)) (jp2 (Eq.refl (mI v_size_c22)) (jp2 (Eq.refl (mI v_stop_c21)) (Eq.refl (mA v_code_c22)))))))))))
theorem t_pReader_readFact_G {N N_j : Nat} (t_N : N = N_j) {rec : Nat → Int32 → Int32 → Int32 → Int32 → Int32 → Int32 → Int32 → (Nat → Int32) → Option R_pReader_readFact} {rec_j : Nat → Int → Int → Int → Int → Int → Int → Int → (Nat → Int) → Option R_iReader_readFact} (t_rec : ∀ (q0_ : Nat) (q1_ : Int32) (q2_ : Int32) (q3_ : Int32) (q4_ : Int32) (q5_ : Int32) (q6_ : Int32) (q7_ : Int32) (q8_ : (Nat → Int32)), tl (mP mI (mP mI (mP mI (mP mI (mP mI (mP mI (mP mI (mP mI mA)))))))) (rec_j q0_ (mI q1_) (mI q2_) (mI q3_) (mI q4_) (mI q5_) (mI q6_) (mI q7_) (mA q8_)) (rec q0_ q1_ q2_ q3_ q4_ q5_ q6_ q7_ q8_)) {v_length : Int32} {v_length_j : Int} (t_v_length : mI v_length = v_length_j) {v_tape : (Nat → Int32)} {v_tape_j : (Nat → Int)} (t_v_tape : mA v_tape = v_tape_j) {v_at : Int32} {v_at_j : Int} (t_v_at : mI v_at = v_at_j) {v_fault : Int32} {v_fault_j : Int} (t_v_fault : mI v_fault = v_fault_j) {v_faultAt : Int32} {v_faultAt_j : Int} (t_v_faultAt : mI v_faultAt = v_faultAt_j) {v_kind : Int32} {v_kind_j : Int} (t_v_kind : mI v_kind = v_kind_j) {v_open : Int32} {v_open_j : Int} (t_v_open : mI v_open = v_open_j) {v_size : Int32} {v_size_j : Int} (t_v_size : mI v_size = v_size_j) {v_stop : Int32} {v_stop_j : Int} (t_v_stop : mI v_stop = v_stop_j) {v_code : (Nat → Int32)} {v_code_j : (Nat → Int)} (t_v_code : mA v_code = v_code_j) : tl (mP mI (mP mI (mP mI (mP mI (mP mI (mP mI (mP mI (mP mI mA)))))))) (iReader_readFact_G N_j rec_j v_length_j v_tape_j v_at_j v_fault_j v_faultAt_j v_kind_j v_open_j v_size_j v_stop_j v_code_j) (pReader_readFact_G N rec v_length v_tape v_at v_fault v_faultAt v_kind v_open v_size v_stop v_code) := by
  subst t_N
  subst t_v_length
  subst t_v_tape
  subst t_v_at
  subst t_v_fault
  subst t_v_faultAt
  subst t_v_kind
  subst t_v_open
  subst t_v_size
  subst t_v_stop
  subst t_v_code
  unfold iReader_readFact_G pReader_readFact_G
  refine tl_bd4 (t_pReader_takeWord (Eq.refl N) (Eq.refl _) (Eq.refl (mI v_at)) (Eq.refl (mI v_kind)) (Eq.refl (mI v_length)) (Eq.refl (mI v_stop)) (Eq.refl (mA v_tape))) (fun rc1 v_at_c1 v_kind_c1 v_stop_c1 => ?_)
  refine tl_ite (jc_eq (Eq.refl (mI rc1)) jlitI_0) ?_ ?_
  · refine tl_bd4 (t_pReader_takeMark (Eq.refl N) jlitI_91 (Eq.refl (mI v_at_c1)) (Eq.refl (mI v_kind_c1)) (Eq.refl (mI v_length)) (Eq.refl (mI v_stop_c1)) (Eq.refl (mA v_tape))) (fun rc2 v_at_c2 v_kind_c2 v_stop_c2 => ?_)
    refine tl_ite (jc_eq (Eq.refl (mI rc2)) jlitI_0) ?_ ?_
    · refine tl_bd4 (t_pReader_takeWord (Eq.refl N) (Eq.refl _) (Eq.refl (mI v_at_c2)) (Eq.refl (mI v_kind_c2)) (Eq.refl (mI v_length)) (Eq.refl (mI v_stop_c2)) (Eq.refl (mA v_tape))) (fun rc3 v_at_c3 v_kind_c3 v_stop_c3 => ?_)
      refine tl_ite (jc_eq (Eq.refl (mI rc3)) jlitI_0) ?_ ?_
      · refine tl_bd4 (t_pReader_takeWord (Eq.refl N) (Eq.refl _) (Eq.refl (mI v_at_c3)) (Eq.refl (mI v_kind_c3)) (Eq.refl (mI v_length)) (Eq.refl (mI v_stop_c3)) (Eq.refl (mA v_tape))) (fun rc4 v_at_c4 v_kind_c4 v_stop_c4 => ?_)
        refine tl_ite (jc_eq (Eq.refl (mI rc4)) jlitI_0) ?_ ?_
        · refine tl_bd9 (t_pReader_readSum (Eq.refl N) (Eq.refl (mI v_at_c4)) (Eq.refl (mI v_fault)) (Eq.refl (mI v_faultAt)) (Eq.refl (mI v_kind_c4)) (Eq.refl (mI v_length)) (Eq.refl (mI v_open)) (Eq.refl (mI v_size)) (Eq.refl (mI v_stop_c4)) (Eq.refl (mA v_code)) (Eq.refl (mA v_tape))) (fun rc5 v_at_c5 v_fault_c5 v_faultAt_c5 v_kind_c5 v_open_c5 v_size_c5 v_stop_c5 v_code_c5 => ?_)
          refine tl_ite (jc_eq (Eq.refl (mI rc5)) jlitI_0) ?_ ?_
          · exact (tl_some (jp2 jlitI_0 (jp2 (Eq.refl (mI v_at_c5)) (jp2 (Eq.refl (mI v_fault_c5)) (jp2 (Eq.refl (mI v_faultAt_c5)) (jp2 (Eq.refl (mI v_kind_c5)) (jp2 (Eq.refl (mI v_open_c5)) (jp2 (Eq.refl (mI v_size_c5)) (jp2 (Eq.refl (mI v_stop_c5)) (Eq.refl (mA v_code_c5)))))))))))
          · refine tl_bd4 (t_pReader_takeMark (Eq.refl N) jlitI_60 (Eq.refl (mI v_at_c5)) (Eq.refl (mI v_kind_c5)) (Eq.refl (mI v_length)) (Eq.refl (mI v_stop_c5)) (Eq.refl (mA v_tape))) (fun rc6 v_at_c6 v_kind_c6 v_stop_c6 => ?_)
            refine tl_ite (jc_eq (Eq.refl (mI rc6)) jlitI_0) ?_ ?_
            · refine tl_bd4 (t_pReader_takeMark (Eq.refl N) jlitI_62 (Eq.refl (mI v_at_c6)) (Eq.refl (mI v_kind_c6)) (Eq.refl (mI v_length)) (Eq.refl (mI v_stop_c6)) (Eq.refl (mA v_tape))) (fun rc7 v_at_c7 v_kind_c7 v_stop_c7 => ?_)
              refine tl_ite (jc_eq (Eq.refl (mI rc7)) jlitI_0) ?_ ?_
              · refine tl_bd4 (t_pReader_takeMark (Eq.refl N) jlitI_61 (Eq.refl (mI v_at_c7)) (Eq.refl (mI v_kind_c7)) (Eq.refl (mI v_length)) (Eq.refl (mI v_stop_c7)) (Eq.refl (mA v_tape))) (fun rc8 v_at_c8 v_kind_c8 v_stop_c8 => ?_)
                refine tl_ite (jc_eq (Eq.refl (mI rc8)) jlitI_0) ?_ ?_
                · exact (t_pReader_readFact_b209 (Eq.refl N) t_rec (Eq.refl (mI v_length)) (Eq.refl (mA v_tape)) jlitI_0 (Eq.refl (mI v_at_c8)) (Eq.refl (mI v_fault_c5)) (Eq.refl (mI v_faultAt_c5)) (Eq.refl (mI v_kind_c8)) (Eq.refl (mI v_open_c5)) (Eq.refl (mI v_size_c5)) (Eq.refl (mI v_stop_c8)) (Eq.refl (mA v_code_c5)))
                · exact (t_pReader_readFact_b209 (Eq.refl N) t_rec (Eq.refl (mI v_length)) (Eq.refl (mA v_tape)) jlitI_m15 (Eq.refl (mI v_at_c8)) (Eq.refl (mI v_fault_c5)) (Eq.refl (mI v_faultAt_c5)) (Eq.refl (mI v_kind_c8)) (Eq.refl (mI v_open_c5)) (Eq.refl (mI v_size_c5)) (Eq.refl (mI v_stop_c8)) (Eq.refl (mA v_code_c5)))
              · exact (t_pReader_readFact_b209 (Eq.refl N) t_rec (Eq.refl (mI v_length)) (Eq.refl (mA v_tape)) jlitI_m14 (Eq.refl (mI v_at_c7)) (Eq.refl (mI v_fault_c5)) (Eq.refl (mI v_faultAt_c5)) (Eq.refl (mI v_kind_c7)) (Eq.refl (mI v_open_c5)) (Eq.refl (mI v_size_c5)) (Eq.refl (mI v_stop_c7)) (Eq.refl (mA v_code_c5)))
            · exact (t_pReader_readFact_b209 (Eq.refl N) t_rec (Eq.refl (mI v_length)) (Eq.refl (mA v_tape)) jlitI_m13 (Eq.refl (mI v_at_c6)) (Eq.refl (mI v_fault_c5)) (Eq.refl (mI v_faultAt_c5)) (Eq.refl (mI v_kind_c6)) (Eq.refl (mI v_open_c5)) (Eq.refl (mI v_size_c5)) (Eq.refl (mI v_stop_c6)) (Eq.refl (mA v_code_c5)))
        · refine tl_bd6 (t_pReader_readNumber (Eq.refl N) jlitI_0 jlitI_7 (Eq.refl (mI v_at_c4)) (Eq.refl (mI v_fault)) (Eq.refl (mI v_faultAt)) (Eq.refl (mI v_kind_c4)) (Eq.refl (mI v_length)) (Eq.refl (mI v_stop_c4)) (Eq.refl (mA v_tape))) (fun rc9 v_at_c9 v_fault_c9 v_faultAt_c9 v_kind_c9 v_stop_c9 => ?_)
          refine tl_ite (jc_eq (Eq.refl (mI rc9)) jlitI_m1) ?_ ?_
          · exact (tl_some (jp2 jlitI_0 (jp2 (Eq.refl (mI v_at_c9)) (jp2 (Eq.refl (mI v_fault_c9)) (jp2 (Eq.refl (mI v_faultAt_c9)) (jp2 (Eq.refl (mI v_kind_c9)) (jp2 (Eq.refl (mI v_open)) (jp2 (Eq.refl (mI v_size)) (jp2 (Eq.refl (mI v_stop_c9)) (Eq.refl (mA v_code)))))))))))
          · refine tl_bd5 (t_pReader_emit (Eq.refl (mI rc9)) (Eq.refl (mI v_at_c9)) (Eq.refl (mI v_fault_c9)) (Eq.refl (mI v_faultAt_c9)) (Eq.refl (mI v_size)) (Eq.refl (mA v_code))) (fun rc10 v_fault_c10 v_faultAt_c10 v_size_c10 v_code_c10 => ?_)
            refine tl_ite (jc_eq (Eq.refl (mI rc10)) jlitI_0) ?_ ?_
            · exact (tl_some (jp2 jlitI_0 (jp2 (Eq.refl (mI v_at_c9)) (jp2 (Eq.refl (mI v_fault_c10)) (jp2 (Eq.refl (mI v_faultAt_c10)) (jp2 (Eq.refl (mI v_kind_c9)) (jp2 (Eq.refl (mI v_open)) (jp2 (Eq.refl (mI v_size_c10)) (jp2 (Eq.refl (mI v_stop_c9)) (Eq.refl (mA v_code_c10)))))))))))
            · refine tl_bd5 (t_pReader_emit jlitI_m6 (Eq.refl (mI v_at_c9)) (Eq.refl (mI v_fault_c10)) (Eq.refl (mI v_faultAt_c10)) (Eq.refl (mI v_size_c10)) (Eq.refl (mA v_code_c10))) (fun rc11 v_fault_c11 v_faultAt_c11 v_size_c11 v_code_c11 => ?_)
              refine tl_ite (jc_eq (Eq.refl (mI rc11)) jlitI_0) ?_ ?_
              · exact (tl_some (jp2 jlitI_0 (jp2 (Eq.refl (mI v_at_c9)) (jp2 (Eq.refl (mI v_fault_c11)) (jp2 (Eq.refl (mI v_faultAt_c11)) (jp2 (Eq.refl (mI v_kind_c9)) (jp2 (Eq.refl (mI v_open)) (jp2 (Eq.refl (mI v_size_c11)) (jp2 (Eq.refl (mI v_stop_c9)) (Eq.refl (mA v_code_c11)))))))))))
              · exact (tl_some (jp2 jlitI_1 (jp2 (Eq.refl (mI v_at_c9)) (jp2 (Eq.refl (mI v_fault_c11)) (jp2 (Eq.refl (mI v_faultAt_c11)) (jp2 (Eq.refl (mI v_kind_c9)) (jp2 (Eq.refl (mI v_open)) (jp2 (Eq.refl (mI v_size_c11)) (jp2 (Eq.refl (mI v_stop_c9)) (Eq.refl (mA v_code_c11)))))))))))
      · refine tl_bd5 (t_pReader_emit jlitI_1 (Eq.refl (mI v_at_c3)) (Eq.refl (mI v_fault)) (Eq.refl (mI v_faultAt)) (Eq.refl (mI v_size)) (Eq.refl (mA v_code))) (fun rc12 v_fault_c12 v_faultAt_c12 v_size_c12 v_code_c12 => ?_)
        refine tl_gd (jg_isB (Eq.refl (mI rc12))) (fun _ => ?_)
        exact (tl_some (jp2 (Eq.refl (mI rc12)) (jp2 (Eq.refl (mI v_at_c3)) (jp2 (Eq.refl (mI v_fault_c12)) (jp2 (Eq.refl (mI v_faultAt_c12)) (jp2 (Eq.refl (mI v_kind_c3)) (jp2 (Eq.refl (mI v_open)) (jp2 (Eq.refl (mI v_size_c12)) (jp2 (Eq.refl (mI v_stop_c3)) (Eq.refl (mA v_code_c12)))))))))))
    · refine tl_bd4 (t_pReader_opens (Eq.refl (mI v_at)) (Eq.refl (mI v_fault)) (Eq.refl (mI v_faultAt)) (Eq.refl (mI v_open))) (fun rc13 v_fault_c13 v_faultAt_c13 v_open_c13 => ?_)
      refine tl_ite (jc_eq (Eq.refl (mI rc13)) jlitI_0) ?_ ?_
      · exact (tl_some (jp2 jlitI_0 (jp2 (Eq.refl (mI v_at_c2)) (jp2 (Eq.refl (mI v_fault_c13)) (jp2 (Eq.refl (mI v_faultAt_c13)) (jp2 (Eq.refl (mI v_kind_c2)) (jp2 (Eq.refl (mI v_open_c13)) (jp2 (Eq.refl (mI v_size)) (jp2 (Eq.refl (mI v_stop_c2)) (Eq.refl (mA v_code)))))))))))
      · refine tl_bd9 (tl_e8 (f2 := rec_j 2) (Eq.refl (mI v_at_c2)) (Eq.refl (mI v_fault_c13)) (Eq.refl (mI v_faultAt_c13)) (Eq.refl (mI v_kind_c2)) (Eq.refl (mI v_open_c13)) (Eq.refl (mI v_size)) (Eq.refl (mI v_stop_c2)) (Eq.refl (mA v_code)) (t_rec 2 _ _ _ _ _ _ _ _)) (fun rc14 v_at_c14 v_fault_c14 v_faultAt_c14 v_kind_c14 v_open_c14 v_size_c14 v_stop_c14 v_code_c14 => ?_)
        refine tl_ite (jc_eq (Eq.refl (mI rc14)) jlitI_0) ?_ ?_
        · exact (tl_some (jp2 jlitI_0 (jp2 (Eq.refl (mI v_at_c14)) (jp2 (Eq.refl (mI v_fault_c14)) (jp2 (Eq.refl (mI v_faultAt_c14)) (jp2 (Eq.refl (mI v_kind_c14)) (jp2 (Eq.refl (mI v_open_c14)) (jp2 (Eq.refl (mI v_size_c14)) (jp2 (Eq.refl (mI v_stop_c14)) (Eq.refl (mA v_code_c14)))))))))))
        · refine tl_bd6 (t_pReader_needMark (Eq.refl N) jlitI_93 (Eq.refl (mI v_at_c14)) (Eq.refl (mI v_fault_c14)) (Eq.refl (mI v_faultAt_c14)) (Eq.refl (mI v_kind_c14)) (Eq.refl (mI v_length)) (Eq.refl (mI v_stop_c14)) (Eq.refl (mA v_tape))) (fun rc15 v_at_c15 v_fault_c15 v_faultAt_c15 v_kind_c15 v_stop_c15 => ?_)
          refine tl_ite (jc_eq (Eq.refl (mI rc15)) jlitI_0) ?_ ?_
          · exact (tl_some (jp2 jlitI_0 (jp2 (Eq.refl (mI v_at_c15)) (jp2 (Eq.refl (mI v_fault_c15)) (jp2 (Eq.refl (mI v_faultAt_c15)) (jp2 (Eq.refl (mI v_kind_c15)) (jp2 (Eq.refl (mI v_open_c14)) (jp2 (Eq.refl (mI v_size_c14)) (jp2 (Eq.refl (mI v_stop_c15)) (Eq.refl (mA v_code_c14)))))))))))
          · refine tl_bd2 (t_pReader_closes (Eq.refl (mI v_open_c14))) (fun rc16 v_open_c16 => ?_)
            refine tl_ite (jc_eq (Eq.refl (mI rc16)) jlitI_0) ?_ ?_
            · exact (tl_some (jp2 jlitI_0 (jp2 (Eq.refl (mI v_at_c15)) (jp2 (Eq.refl (mI v_fault_c15)) (jp2 (Eq.refl (mI v_faultAt_c15)) (jp2 (Eq.refl (mI v_kind_c15)) (jp2 (Eq.refl (mI v_open_c16)) (jp2 (Eq.refl (mI v_size_c14)) (jp2 (Eq.refl (mI v_stop_c15)) (Eq.refl (mA v_code_c14)))))))))))
            · exact (tl_some (jp2 jlitI_1 (jp2 (Eq.refl (mI v_at_c15)) (jp2 (Eq.refl (mI v_fault_c15)) (jp2 (Eq.refl (mI v_faultAt_c15)) (jp2 (Eq.refl (mI v_kind_c15)) (jp2 (Eq.refl (mI v_open_c16)) (jp2 (Eq.refl (mI v_size_c14)) (jp2 (Eq.refl (mI v_stop_c15)) (Eq.refl (mA v_code_c14)))))))))))
  · refine tl_bd4 (t_pReader_opens (Eq.refl (mI v_at)) (Eq.refl (mI v_fault)) (Eq.refl (mI v_faultAt)) (Eq.refl (mI v_open))) (fun rc17 v_fault_c17 v_faultAt_c17 v_open_c17 => ?_)
    refine tl_ite (jc_eq (Eq.refl (mI rc17)) jlitI_0) ?_ ?_
    · exact (tl_some (jp2 jlitI_0 (jp2 (Eq.refl (mI v_at_c1)) (jp2 (Eq.refl (mI v_fault_c17)) (jp2 (Eq.refl (mI v_faultAt_c17)) (jp2 (Eq.refl (mI v_kind_c1)) (jp2 (Eq.refl (mI v_open_c17)) (jp2 (Eq.refl (mI v_size)) (jp2 (Eq.refl (mI v_stop_c1)) (Eq.refl (mA v_code)))))))))))
    · refine tl_bd9 (tl_e8 (f2 := rec_j 1) (Eq.refl (mI v_at_c1)) (Eq.refl (mI v_fault_c17)) (Eq.refl (mI v_faultAt_c17)) (Eq.refl (mI v_kind_c1)) (Eq.refl (mI v_open_c17)) (Eq.refl (mI v_size)) (Eq.refl (mI v_stop_c1)) (Eq.refl (mA v_code)) (t_rec 1 _ _ _ _ _ _ _ _)) (fun rc18 v_at_c18 v_fault_c18 v_faultAt_c18 v_kind_c18 v_open_c18 v_size_c18 v_stop_c18 v_code_c18 => ?_)
      refine tl_ite (jc_eq (Eq.refl (mI rc18)) jlitI_0) ?_ ?_
      · exact (tl_some (jp2 jlitI_0 (jp2 (Eq.refl (mI v_at_c18)) (jp2 (Eq.refl (mI v_fault_c18)) (jp2 (Eq.refl (mI v_faultAt_c18)) (jp2 (Eq.refl (mI v_kind_c18)) (jp2 (Eq.refl (mI v_open_c18)) (jp2 (Eq.refl (mI v_size_c18)) (jp2 (Eq.refl (mI v_stop_c18)) (Eq.refl (mA v_code_c18)))))))))))
      · refine tl_bd5 (t_pReader_emit jlitI_m5 (Eq.refl (mI v_at_c18)) (Eq.refl (mI v_fault_c18)) (Eq.refl (mI v_faultAt_c18)) (Eq.refl (mI v_size_c18)) (Eq.refl (mA v_code_c18))) (fun rc19 v_fault_c19 v_faultAt_c19 v_size_c19 v_code_c19 => ?_)
        refine tl_ite (jc_eq (Eq.refl (mI rc19)) jlitI_0) ?_ ?_
        · exact (tl_some (jp2 jlitI_0 (jp2 (Eq.refl (mI v_at_c18)) (jp2 (Eq.refl (mI v_fault_c19)) (jp2 (Eq.refl (mI v_faultAt_c19)) (jp2 (Eq.refl (mI v_kind_c18)) (jp2 (Eq.refl (mI v_open_c18)) (jp2 (Eq.refl (mI v_size_c19)) (jp2 (Eq.refl (mI v_stop_c18)) (Eq.refl (mA v_code_c19)))))))))))
        · refine tl_bd2 (t_pReader_closes (Eq.refl (mI v_open_c18))) (fun rc20 v_open_c20 => ?_)
          refine tl_ite (jc_eq (Eq.refl (mI rc20)) jlitI_0) ?_ ?_
          · exact (tl_some (jp2 jlitI_0 (jp2 (Eq.refl (mI v_at_c18)) (jp2 (Eq.refl (mI v_fault_c19)) (jp2 (Eq.refl (mI v_faultAt_c19)) (jp2 (Eq.refl (mI v_kind_c18)) (jp2 (Eq.refl (mI v_open_c20)) (jp2 (Eq.refl (mI v_size_c19)) (jp2 (Eq.refl (mI v_stop_c18)) (Eq.refl (mA v_code_c19)))))))))))
          · exact (tl_some (jp2 jlitI_1 (jp2 (Eq.refl (mI v_at_c18)) (jp2 (Eq.refl (mI v_fault_c19)) (jp2 (Eq.refl (mI v_faultAt_c19)) (jp2 (Eq.refl (mI v_kind_c18)) (jp2 (Eq.refl (mI v_open_c20)) (jp2 (Eq.refl (mI v_size_c19)) (jp2 (Eq.refl (mI v_stop_c18)) (Eq.refl (mA v_code_c19)))))))))))
theorem t_pReader_readTest_b7_F {N N_j : Nat} (t_N : N = N_j) {rec : Nat → Int32 → Int32 → Int32 → Int32 → Int32 → Int32 → Int32 → (Nat → Int32) → Option R_pReader_readTest} {rec_j : Nat → Int → Int → Int → Int → Int → Int → Int → (Nat → Int) → Option R_iReader_readTest} (t_rec : ∀ (q0_ : Nat) (q1_ : Int32) (q2_ : Int32) (q3_ : Int32) (q4_ : Int32) (q5_ : Int32) (q6_ : Int32) (q7_ : Int32) (q8_ : (Nat → Int32)), tl (mP mI (mP mI (mP mI (mP mI (mP mI (mP mI (mP mI (mP mI mA)))))))) (rec_j q0_ (mI q1_) (mI q2_) (mI q3_) (mI q4_) (mI q5_) (mI q6_) (mI q7_) (mA q8_)) (rec q0_ q1_ q2_ q3_ q4_ q5_ q6_ q7_ q8_)) {v_length : Int32} {v_length_j : Int} (t_v_length : mI v_length = v_length_j) {v_tape : (Nat → Int32)} {v_tape_j : (Nat → Int)} (t_v_tape : mA v_tape = v_tape_j) {self : Int32 → Int32 → Int32 → Int32 → Int32 → Int32 → Int32 → Int32 → Int32 → (Nat → Int32) → Option R_pReader_readTest} {self_j : Int → Int → Int → Int → Int → Int → Int → Int → Int → (Nat → Int) → Option R_iReader_readTest} (t_self : ∀ (q0_ : Int32) (q1_ : Int32) (q2_ : Int32) (q3_ : Int32) (q4_ : Int32) (q5_ : Int32) (q6_ : Int32) (q7_ : Int32) (q8_ : Int32) (q9_ : (Nat → Int32)), tl (mP mI (mP mI (mP mI (mP mI (mP mI (mP mI (mP mI (mP mI mA)))))))) (self_j (mI q0_) (mI q1_) (mI q2_) (mI q3_) (mI q4_) (mI q5_) (mI q6_) (mI q7_) (mI q8_) (mA q9_)) (self q0_ q1_ q2_ q3_ q4_ q5_ q6_ q7_ q8_ q9_)) {x1 : Int32} {x1_j : Int} (t_x1 : mI x1 = x1_j) {x2 : Int32} {x2_j : Int} (t_x2 : mI x2 = x2_j) {v_at : Int32} {v_at_j : Int} (t_v_at : mI v_at = v_at_j) {v_fault : Int32} {v_fault_j : Int} (t_v_fault : mI v_fault = v_fault_j) {v_faultAt : Int32} {v_faultAt_j : Int} (t_v_faultAt : mI v_faultAt = v_faultAt_j) {v_kind : Int32} {v_kind_j : Int} (t_v_kind : mI v_kind = v_kind_j) {v_open : Int32} {v_open_j : Int} (t_v_open : mI v_open = v_open_j) {v_size : Int32} {v_size_j : Int} (t_v_size : mI v_size = v_size_j) {v_stop : Int32} {v_stop_j : Int} (t_v_stop : mI v_stop = v_stop_j) {v_code : (Nat → Int32)} {v_code_j : (Nat → Int)} (t_v_code : mA v_code = v_code_j) : tl (mP mI (mP mI (mP mI (mP mI (mP mI (mP mI (mP mI (mP mI mA)))))))) (iReader_readTest_b7_F N_j rec_j v_length_j v_tape_j self_j x1_j x2_j v_at_j v_fault_j v_faultAt_j v_kind_j v_open_j v_size_j v_stop_j v_code_j) (pReader_readTest_b7_F N rec v_length v_tape self x1 x2 v_at v_fault v_faultAt v_kind v_open v_size v_stop v_code) := by
  subst t_N
  subst t_v_length
  subst t_v_tape
  subst t_x1
  subst t_x2
  subst t_v_at
  subst t_v_fault
  subst t_v_faultAt
  subst t_v_kind
  subst t_v_open
  subst t_v_size
  subst t_v_stop
  subst t_v_code
  unfold iReader_readTest_b7_F pReader_readTest_b7_F
  refine tl_ite (jc_le jlitI_600 (Eq.refl (mI x2))) ?_ ?_
  · refine tl_gd (jg_isB (Eq.refl (mI x1))) (fun _ => ?_)
    exact (tl_some (jp2 (Eq.refl (mI x1)) (jp2 (Eq.refl (mI v_at)) (jp2 (Eq.refl (mI v_fault)) (jp2 (Eq.refl (mI v_faultAt)) (jp2 (Eq.refl (mI v_kind)) (jp2 (Eq.refl (mI v_open)) (jp2 (Eq.refl (mI v_size)) (jp2 (Eq.refl (mI v_stop)) (Eq.refl (mA v_code)))))))))))
  · refine tl_ite (jc_eq (Eq.refl (mI x1)) jlitI_0) ?_ ?_
    · refine tl_gd (jg_isB (Eq.refl (mI x1))) (fun _ => ?_)
      exact (tl_some (jp2 (Eq.refl (mI x1)) (jp2 (Eq.refl (mI v_at)) (jp2 (Eq.refl (mI v_fault)) (jp2 (Eq.refl (mI v_faultAt)) (jp2 (Eq.refl (mI v_kind)) (jp2 (Eq.refl (mI v_open)) (jp2 (Eq.refl (mI v_size)) (jp2 (Eq.refl (mI v_stop)) (Eq.refl (mA v_code)))))))))))
    · refine tl_bd4 (t_pReader_takeWord (Eq.refl N) (Eq.refl _) (Eq.refl (mI v_at)) (Eq.refl (mI v_kind)) (Eq.refl (mI v_length)) (Eq.refl (mI v_stop)) (Eq.refl (mA v_tape))) (fun rc2 v_at_c2 v_kind_c2 v_stop_c2 => ?_)
      refine tl_ite (jc_eq (Eq.refl (mI rc2)) jlitI_0) ?_ ?_
      · refine tl_gd (jg_isB (Eq.refl (mI x1))) (fun _ => ?_)
        exact (tl_some (jp2 (Eq.refl (mI x1)) (jp2 (Eq.refl (mI v_at_c2)) (jp2 (Eq.refl (mI v_fault)) (jp2 (Eq.refl (mI v_faultAt)) (jp2 (Eq.refl (mI v_kind_c2)) (jp2 (Eq.refl (mI v_open)) (jp2 (Eq.refl (mI v_size)) (jp2 (Eq.refl (mI v_stop_c2)) (Eq.refl (mA v_code)))))))))))
      · refine tl_bd9 (tl_e8 (f2 := rec_j 0) (Eq.refl (mI v_at_c2)) (Eq.refl (mI v_fault)) (Eq.refl (mI v_faultAt)) (Eq.refl (mI v_kind_c2)) (Eq.refl (mI v_open)) (Eq.refl (mI v_size)) (Eq.refl (mI v_stop_c2)) (Eq.refl (mA v_code)) (t_rec 0 _ _ _ _ _ _ _ _)) (fun rc3 v_at_c3 v_fault_c3 v_faultAt_c3 v_kind_c3 v_open_c3 v_size_c3 v_stop_c3 v_code_c3 => ?_)
        refine tl_ite (jc_eq (Eq.refl (mI rc3)) jlitI_0) ?_ ?_
        · refine tl_g (fun h1 => ?_)
          exact (tl_e10 jlitI_0 (ja_add (Eq.refl (mI x2)) jlitI_1 h1) (Eq.refl (mI v_at_c3)) (Eq.refl (mI v_fault_c3)) (Eq.refl (mI v_faultAt_c3)) (Eq.refl (mI v_kind_c3)) (Eq.refl (mI v_open_c3)) (Eq.refl (mI v_size_c3)) (Eq.refl (mI v_stop_c3)) (Eq.refl (mA v_code_c3)) (t_self _ _ _ _ _ _ _ _ _ _))
        · refine tl_bd5 (t_pReader_emit jlitI_m17 (Eq.refl (mI v_at_c3)) (Eq.refl (mI v_fault_c3)) (Eq.refl (mI v_faultAt_c3)) (Eq.refl (mI v_size_c3)) (Eq.refl (mA v_code_c3))) (fun rc4 v_fault_c4 v_faultAt_c4 v_size_c4 v_code_c4 => ?_)
          refine tl_ite (jc_eq (Eq.refl (mI rc4)) jlitI_0) ?_ ?_
          · refine tl_g (fun h2 => ?_)
            exact (tl_e10 jlitI_0 (ja_add (Eq.refl (mI x2)) jlitI_1 h2) (Eq.refl (mI v_at_c3)) (Eq.refl (mI v_fault_c4)) (Eq.refl (mI v_faultAt_c4)) (Eq.refl (mI v_kind_c3)) (Eq.refl (mI v_open_c3)) (Eq.refl (mI v_size_c4)) (Eq.refl (mI v_stop_c3)) (Eq.refl (mA v_code_c4)) (t_self _ _ _ _ _ _ _ _ _ _))
          · refine tl_g (fun h3 => ?_)
            exact (tl_e10 jlitI_1 (ja_add (Eq.refl (mI x2)) jlitI_1 h3) (Eq.refl (mI v_at_c3)) (Eq.refl (mI v_fault_c4)) (Eq.refl (mI v_faultAt_c4)) (Eq.refl (mI v_kind_c3)) (Eq.refl (mI v_open_c3)) (Eq.refl (mI v_size_c4)) (Eq.refl (mI v_stop_c3)) (Eq.refl (mA v_code_c4)) (t_self _ _ _ _ _ _ _ _ _ _))
theorem t_pReader_readTest_b7 {N N_j : Nat} (t_N : N = N_j) {rec : Nat → Int32 → Int32 → Int32 → Int32 → Int32 → Int32 → Int32 → (Nat → Int32) → Option R_pReader_readTest} {rec_j : Nat → Int → Int → Int → Int → Int → Int → Int → (Nat → Int) → Option R_iReader_readTest} (t_rec : ∀ (q0_ : Nat) (q1_ : Int32) (q2_ : Int32) (q3_ : Int32) (q4_ : Int32) (q5_ : Int32) (q6_ : Int32) (q7_ : Int32) (q8_ : (Nat → Int32)), tl (mP mI (mP mI (mP mI (mP mI (mP mI (mP mI (mP mI (mP mI mA)))))))) (rec_j q0_ (mI q1_) (mI q2_) (mI q3_) (mI q4_) (mI q5_) (mI q6_) (mI q7_) (mA q8_)) (rec q0_ q1_ q2_ q3_ q4_ q5_ q6_ q7_ q8_)) {v_length : Int32} {v_length_j : Int} (t_v_length : mI v_length = v_length_j) {v_tape : (Nat → Int32)} {v_tape_j : (Nat → Int)} (t_v_tape : mA v_tape = v_tape_j) {n n_j : Nat} (t_n : n = n_j) {w0_ : Int32} {w0__j : Int} (t_w0_ : mI w0_ = w0__j) {w1_ : Int32} {w1__j : Int} (t_w1_ : mI w1_ = w1__j) {w2_ : Int32} {w2__j : Int} (t_w2_ : mI w2_ = w2__j) {w3_ : Int32} {w3__j : Int} (t_w3_ : mI w3_ = w3__j) {w4_ : Int32} {w4__j : Int} (t_w4_ : mI w4_ = w4__j) {w5_ : Int32} {w5__j : Int} (t_w5_ : mI w5_ = w5__j) {w6_ : Int32} {w6__j : Int} (t_w6_ : mI w6_ = w6__j) {w7_ : Int32} {w7__j : Int} (t_w7_ : mI w7_ = w7__j) {w8_ : Int32} {w8__j : Int} (t_w8_ : mI w8_ = w8__j) {w9_ : (Nat → Int32)} {w9__j : (Nat → Int)} (t_w9_ : mA w9_ = w9__j) : tl (mP mI (mP mI (mP mI (mP mI (mP mI (mP mI (mP mI (mP mI mA)))))))) (iReader_readTest_b7 N_j rec_j v_length_j v_tape_j n_j w0__j w1__j w2__j w3__j w4__j w5__j w6__j w7__j w8__j w9__j) (pReader_readTest_b7 N rec v_length v_tape n w0_ w1_ w2_ w3_ w4_ w5_ w6_ w7_ w8_ w9_) := by
  subst t_N
  subst t_v_length
  subst t_v_tape
  subst t_n
  subst t_w0_
  subst t_w1_
  subst t_w2_
  subst t_w3_
  subst t_w4_
  subst t_w5_
  subst t_w6_
  subst t_w7_
  subst t_w8_
  subst t_w9_
  exact tl_zlp10 (fun s2 s hs w0_ w1_ w2_ w3_ w4_ w5_ w6_ w7_ w8_ w9_ => t_pReader_readTest_b7_F (Eq.refl N) t_rec (Eq.refl (mI v_length)) (Eq.refl (mA v_tape)) hs (Eq.refl (mI w0_)) (Eq.refl (mI w1_)) (Eq.refl (mI w2_)) (Eq.refl (mI w3_)) (Eq.refl (mI w4_)) (Eq.refl (mI w5_)) (Eq.refl (mI w6_)) (Eq.refl (mI w7_)) (Eq.refl (mI w8_)) (Eq.refl (mA w9_))) n w0_ w1_ w2_ w3_ w4_ w5_ w6_ w7_ w8_ w9_
theorem t_pReader_readTest_G {N N_j : Nat} (t_N : N = N_j) {rec : Nat → Int32 → Int32 → Int32 → Int32 → Int32 → Int32 → Int32 → (Nat → Int32) → Option R_pReader_readTest} {rec_j : Nat → Int → Int → Int → Int → Int → Int → Int → (Nat → Int) → Option R_iReader_readTest} (t_rec : ∀ (q0_ : Nat) (q1_ : Int32) (q2_ : Int32) (q3_ : Int32) (q4_ : Int32) (q5_ : Int32) (q6_ : Int32) (q7_ : Int32) (q8_ : (Nat → Int32)), tl (mP mI (mP mI (mP mI (mP mI (mP mI (mP mI (mP mI (mP mI mA)))))))) (rec_j q0_ (mI q1_) (mI q2_) (mI q3_) (mI q4_) (mI q5_) (mI q6_) (mI q7_) (mA q8_)) (rec q0_ q1_ q2_ q3_ q4_ q5_ q6_ q7_ q8_)) {v_length : Int32} {v_length_j : Int} (t_v_length : mI v_length = v_length_j) {v_tape : (Nat → Int32)} {v_tape_j : (Nat → Int)} (t_v_tape : mA v_tape = v_tape_j) {v_at : Int32} {v_at_j : Int} (t_v_at : mI v_at = v_at_j) {v_fault : Int32} {v_fault_j : Int} (t_v_fault : mI v_fault = v_fault_j) {v_faultAt : Int32} {v_faultAt_j : Int} (t_v_faultAt : mI v_faultAt = v_faultAt_j) {v_kind : Int32} {v_kind_j : Int} (t_v_kind : mI v_kind = v_kind_j) {v_open : Int32} {v_open_j : Int} (t_v_open : mI v_open = v_open_j) {v_size : Int32} {v_size_j : Int} (t_v_size : mI v_size = v_size_j) {v_stop : Int32} {v_stop_j : Int} (t_v_stop : mI v_stop = v_stop_j) {v_code : (Nat → Int32)} {v_code_j : (Nat → Int)} (t_v_code : mA v_code = v_code_j) : tl (mP mI (mP mI (mP mI (mP mI (mP mI (mP mI (mP mI (mP mI mA)))))))) (iReader_readTest_G N_j rec_j v_length_j v_tape_j v_at_j v_fault_j v_faultAt_j v_kind_j v_open_j v_size_j v_stop_j v_code_j) (pReader_readTest_G N rec v_length v_tape v_at v_fault v_faultAt v_kind v_open v_size v_stop v_code) := by
  subst t_N
  subst t_v_length
  subst t_v_tape
  subst t_v_at
  subst t_v_fault
  subst t_v_faultAt
  subst t_v_kind
  subst t_v_open
  subst t_v_size
  subst t_v_stop
  subst t_v_code
  unfold iReader_readTest_G pReader_readTest_G
  refine tl_bd9 (tl_e8 (f2 := rec_j 0) (Eq.refl (mI v_at)) (Eq.refl (mI v_fault)) (Eq.refl (mI v_faultAt)) (Eq.refl (mI v_kind)) (Eq.refl (mI v_open)) (Eq.refl (mI v_size)) (Eq.refl (mI v_stop)) (Eq.refl (mA v_code)) (t_rec 0 _ _ _ _ _ _ _ _)) (fun rc1 v_at_c1 v_fault_c1 v_faultAt_c1 v_kind_c1 v_open_c1 v_size_c1 v_stop_c1 v_code_c1 => ?_)
  exact (t_pReader_readTest_b7 (Eq.refl N) t_rec (Eq.refl (mI v_length)) (Eq.refl (mA v_tape)) (Eq.refl N) (Eq.refl (mI rc1)) jlitI_0 (Eq.refl (mI v_at_c1)) (Eq.refl (mI v_fault_c1)) (Eq.refl (mI v_faultAt_c1)) (Eq.refl (mI v_kind_c1)) (Eq.refl (mI v_open_c1)) (Eq.refl (mI v_size_c1)) (Eq.refl (mI v_stop_c1)) (Eq.refl (mA v_code_c1)))
theorem t_pG_readBoth_readFact_readTest {N N_j : Nat} (t_N : N = N_j) {v_length : Int32} {v_length_j : Int} (t_v_length : mI v_length = v_length_j) {v_tape : (Nat → Int32)} {v_tape_j : (Nat → Int)} (t_v_tape : mA v_tape = v_tape_j) {d d_j : Nat} (t_d : d = d_j) {tag tag_j : Nat} (t_tag : tag = tag_j) {v_at : Int32} {v_at_j : Int} (t_v_at : mI v_at = v_at_j) {v_fault : Int32} {v_fault_j : Int} (t_v_fault : mI v_fault = v_fault_j) {v_faultAt : Int32} {v_faultAt_j : Int} (t_v_faultAt : mI v_faultAt = v_faultAt_j) {v_kind : Int32} {v_kind_j : Int} (t_v_kind : mI v_kind = v_kind_j) {v_open : Int32} {v_open_j : Int} (t_v_open : mI v_open = v_open_j) {v_size : Int32} {v_size_j : Int} (t_v_size : mI v_size = v_size_j) {v_stop : Int32} {v_stop_j : Int} (t_v_stop : mI v_stop = v_stop_j) {v_code : (Nat → Int32)} {v_code_j : (Nat → Int)} (t_v_code : mA v_code = v_code_j) : tl (mP mI (mP mI (mP mI (mP mI (mP mI (mP mI (mP mI (mP mI mA)))))))) (iG_readBoth_readFact_readTest N_j v_length_j v_tape_j d_j tag_j v_at_j v_fault_j v_faultAt_j v_kind_j v_open_j v_size_j v_stop_j v_code_j) (pG_readBoth_readFact_readTest N v_length v_tape d tag v_at v_fault v_faultAt v_kind v_open v_size v_stop v_code) := by
  subst t_N
  subst t_v_length
  subst t_v_tape
  subst t_d
  subst t_tag
  subst t_v_at
  subst t_v_fault
  subst t_v_faultAt
  subst t_v_kind
  subst t_v_open
  subst t_v_size
  subst t_v_stop
  subst t_v_code
  refine tl_gr8 (fun rec_j rec t_rec tag v_at v_fault v_faultAt v_kind v_open v_size v_stop v_code => ?_) d tag v_at v_fault v_faultAt v_kind v_open v_size v_stop v_code
  refine tl_ite Iff.rfl ?_ ?_
  · exact (t_pReader_readBoth_G (Eq.refl N) t_rec (Eq.refl (mI v_length)) (Eq.refl (mA v_tape)) (Eq.refl (mI v_at)) (Eq.refl (mI v_fault)) (Eq.refl (mI v_faultAt)) (Eq.refl (mI v_kind)) (Eq.refl (mI v_open)) (Eq.refl (mI v_size)) (Eq.refl (mI v_stop)) (Eq.refl (mA v_code)))
  · refine tl_ite Iff.rfl ?_ ?_
    · exact (t_pReader_readFact_G (Eq.refl N) t_rec (Eq.refl (mI v_length)) (Eq.refl (mA v_tape)) (Eq.refl (mI v_at)) (Eq.refl (mI v_fault)) (Eq.refl (mI v_faultAt)) (Eq.refl (mI v_kind)) (Eq.refl (mI v_open)) (Eq.refl (mI v_size)) (Eq.refl (mI v_stop)) (Eq.refl (mA v_code)))
    · exact (t_pReader_readTest_G (Eq.refl N) t_rec (Eq.refl (mI v_length)) (Eq.refl (mA v_tape)) (Eq.refl (mI v_at)) (Eq.refl (mI v_fault)) (Eq.refl (mI v_faultAt)) (Eq.refl (mI v_kind)) (Eq.refl (mI v_open)) (Eq.refl (mI v_size)) (Eq.refl (mI v_stop)) (Eq.refl (mA v_code)))
theorem t_pReader_readBoth {N N_j : Nat} (t_N : N = N_j) {v_at : Int32} {v_at_j : Int} (t_v_at : mI v_at = v_at_j) {v_fault : Int32} {v_fault_j : Int} (t_v_fault : mI v_fault = v_fault_j) {v_faultAt : Int32} {v_faultAt_j : Int} (t_v_faultAt : mI v_faultAt = v_faultAt_j) {v_kind : Int32} {v_kind_j : Int} (t_v_kind : mI v_kind = v_kind_j) {v_length : Int32} {v_length_j : Int} (t_v_length : mI v_length = v_length_j) {v_open : Int32} {v_open_j : Int} (t_v_open : mI v_open = v_open_j) {v_size : Int32} {v_size_j : Int} (t_v_size : mI v_size = v_size_j) {v_stop : Int32} {v_stop_j : Int} (t_v_stop : mI v_stop = v_stop_j) {v_code : (Nat → Int32)} {v_code_j : (Nat → Int)} (t_v_code : mA v_code = v_code_j) {v_tape : (Nat → Int32)} {v_tape_j : (Nat → Int)} (t_v_tape : mA v_tape = v_tape_j) : tl (mP mI (mP mI (mP mI (mP mI (mP mI (mP mI (mP mI (mP mI mA)))))))) (iReader_readBoth N_j v_at_j v_fault_j v_faultAt_j v_kind_j v_length_j v_open_j v_size_j v_stop_j v_code_j v_tape_j) (pReader_readBoth N v_at v_fault v_faultAt v_kind v_length v_open v_size v_stop v_code v_tape) := by
  subst t_N
  subst t_v_at
  subst t_v_fault
  subst t_v_faultAt
  subst t_v_kind
  subst t_v_length
  subst t_v_open
  subst t_v_size
  subst t_v_stop
  subst t_v_code
  subst t_v_tape
  unfold iReader_readBoth pReader_readBoth
  exact (t_pG_readBoth_readFact_readTest (Eq.refl N) (Eq.refl (mI v_length)) (Eq.refl (mA v_tape)) (Eq.refl _) (Eq.refl _) (Eq.refl (mI v_at)) (Eq.refl (mI v_fault)) (Eq.refl (mI v_faultAt)) (Eq.refl (mI v_kind)) (Eq.refl (mI v_open)) (Eq.refl (mI v_size)) (Eq.refl (mI v_stop)) (Eq.refl (mA v_code)))
theorem t_pReader_readFact {N N_j : Nat} (t_N : N = N_j) {v_at : Int32} {v_at_j : Int} (t_v_at : mI v_at = v_at_j) {v_fault : Int32} {v_fault_j : Int} (t_v_fault : mI v_fault = v_fault_j) {v_faultAt : Int32} {v_faultAt_j : Int} (t_v_faultAt : mI v_faultAt = v_faultAt_j) {v_kind : Int32} {v_kind_j : Int} (t_v_kind : mI v_kind = v_kind_j) {v_length : Int32} {v_length_j : Int} (t_v_length : mI v_length = v_length_j) {v_open : Int32} {v_open_j : Int} (t_v_open : mI v_open = v_open_j) {v_size : Int32} {v_size_j : Int} (t_v_size : mI v_size = v_size_j) {v_stop : Int32} {v_stop_j : Int} (t_v_stop : mI v_stop = v_stop_j) {v_code : (Nat → Int32)} {v_code_j : (Nat → Int)} (t_v_code : mA v_code = v_code_j) {v_tape : (Nat → Int32)} {v_tape_j : (Nat → Int)} (t_v_tape : mA v_tape = v_tape_j) : tl (mP mI (mP mI (mP mI (mP mI (mP mI (mP mI (mP mI (mP mI mA)))))))) (iReader_readFact N_j v_at_j v_fault_j v_faultAt_j v_kind_j v_length_j v_open_j v_size_j v_stop_j v_code_j v_tape_j) (pReader_readFact N v_at v_fault v_faultAt v_kind v_length v_open v_size v_stop v_code v_tape) := by
  subst t_N
  subst t_v_at
  subst t_v_fault
  subst t_v_faultAt
  subst t_v_kind
  subst t_v_length
  subst t_v_open
  subst t_v_size
  subst t_v_stop
  subst t_v_code
  subst t_v_tape
  unfold iReader_readFact pReader_readFact
  exact (t_pG_readBoth_readFact_readTest (Eq.refl N) (Eq.refl (mI v_length)) (Eq.refl (mA v_tape)) (Eq.refl _) (Eq.refl _) (Eq.refl (mI v_at)) (Eq.refl (mI v_fault)) (Eq.refl (mI v_faultAt)) (Eq.refl (mI v_kind)) (Eq.refl (mI v_open)) (Eq.refl (mI v_size)) (Eq.refl (mI v_stop)) (Eq.refl (mA v_code)))
theorem t_pReader_readTest {N N_j : Nat} (t_N : N = N_j) {v_at : Int32} {v_at_j : Int} (t_v_at : mI v_at = v_at_j) {v_fault : Int32} {v_fault_j : Int} (t_v_fault : mI v_fault = v_fault_j) {v_faultAt : Int32} {v_faultAt_j : Int} (t_v_faultAt : mI v_faultAt = v_faultAt_j) {v_kind : Int32} {v_kind_j : Int} (t_v_kind : mI v_kind = v_kind_j) {v_length : Int32} {v_length_j : Int} (t_v_length : mI v_length = v_length_j) {v_open : Int32} {v_open_j : Int} (t_v_open : mI v_open = v_open_j) {v_size : Int32} {v_size_j : Int} (t_v_size : mI v_size = v_size_j) {v_stop : Int32} {v_stop_j : Int} (t_v_stop : mI v_stop = v_stop_j) {v_code : (Nat → Int32)} {v_code_j : (Nat → Int)} (t_v_code : mA v_code = v_code_j) {v_tape : (Nat → Int32)} {v_tape_j : (Nat → Int)} (t_v_tape : mA v_tape = v_tape_j) : tl (mP mI (mP mI (mP mI (mP mI (mP mI (mP mI (mP mI (mP mI mA)))))))) (iReader_readTest N_j v_at_j v_fault_j v_faultAt_j v_kind_j v_length_j v_open_j v_size_j v_stop_j v_code_j v_tape_j) (pReader_readTest N v_at v_fault v_faultAt v_kind v_length v_open v_size v_stop v_code v_tape) := by
  subst t_N
  subst t_v_at
  subst t_v_fault
  subst t_v_faultAt
  subst t_v_kind
  subst t_v_length
  subst t_v_open
  subst t_v_size
  subst t_v_stop
  subst t_v_code
  subst t_v_tape
  unfold iReader_readTest pReader_readTest
  exact (t_pG_readBoth_readFact_readTest (Eq.refl N) (Eq.refl (mI v_length)) (Eq.refl (mA v_tape)) (Eq.refl _) (Eq.refl _) (Eq.refl (mI v_at)) (Eq.refl (mI v_fault)) (Eq.refl (mI v_faultAt)) (Eq.refl (mI v_kind)) (Eq.refl (mI v_open)) (Eq.refl (mI v_size)) (Eq.refl (mI v_stop)) (Eq.refl (mA v_code)))
theorem t_pReader_readStatement_b65 {N N_j : Nat} (t_N : N = N_j) {v_count : Int32} {v_count_j : Int} (t_v_count : mI v_count = v_count_j) {v_length : Int32} {v_length_j : Int} (t_v_length : mI v_length = v_length_j) {v_tape : (Nat → Int32)} {v_tape_j : (Nat → Int)} (t_v_tape : mA v_tape = v_tape_j) {x1 x1_j : Nat} (t_x1 : x1 = x1_j) {s0 : Int32} {s0_j : Int} (t_s0 : mI s0 = s0_j) {v_D : Dyn} {v_D_j : DynI} (t_v_D : mD v_D = v_D_j) {v_at : Int32} {v_at_j : Int} (t_v_at : mI v_at = v_at_j) {v_fault : Int32} {v_fault_j : Int} (t_v_fault : mI v_fault = v_fault_j) {v_faultAt : Int32} {v_faultAt_j : Int} (t_v_faultAt : mI v_faultAt = v_faultAt_j) {v_kind : Int32} {v_kind_j : Int} (t_v_kind : mI v_kind = v_kind_j) {v_open : Int32} {v_open_j : Int} (t_v_open : mI v_open = v_open_j) {v_size : Int32} {v_size_j : Int} (t_v_size : mI v_size = v_size_j) {v_stop : Int32} {v_stop_j : Int} (t_v_stop : mI v_stop = v_stop_j) {v_code : (Nat → Int32)} {v_code_j : (Nat → Int)} (t_v_code : mA v_code = v_code_j) {v_statements : (Nat → Option Nat)} {v_statements_j : (Nat → Option Nat)} (t_v_statements : mO v_statements = v_statements_j) : tl (mP mI (mP mD (mP mI (mP mI (mP mI (mP mI (mP mI (mP mI (mP mI (mP mA mO)))))))))) (iReader_readStatement_b65 N_j v_count_j v_length_j v_tape_j x1_j s0_j v_D_j v_at_j v_fault_j v_faultAt_j v_kind_j v_open_j v_size_j v_stop_j v_code_j v_statements_j) (pReader_readStatement_b65 N v_count v_length v_tape x1 s0 v_D v_at v_fault v_faultAt v_kind v_open v_size v_stop v_code v_statements) := by
  subst t_N
  subst t_v_count
  subst t_v_length
  subst t_v_tape
  subst t_x1
  subst t_s0
  subst t_v_D
  subst t_v_at
  subst t_v_fault
  subst t_v_faultAt
  subst t_v_kind
  subst t_v_open
  subst t_v_size
  subst t_v_stop
  subst t_v_code
  subst t_v_statements
  unfold iReader_readStatement_b65 pReader_readStatement_b65
  refine tl_bd1 (jt_PI (Eq.refl (mD v_D)) (Eq.refl (mI v_size))) (fun v_D10 => ?_)
  refine tl_ite (jc_eq (Eq.refl (mI s0)) jlitI_0) ?_ ?_
  · exact (tl_some (jp2 jlitI_0 (jp2 (Eq.refl (mD v_D10)) (jp2 (Eq.refl (mI v_at)) (jp2 (Eq.refl (mI v_fault)) (jp2 (Eq.refl (mI v_faultAt)) (jp2 (Eq.refl (mI v_kind)) (jp2 (Eq.refl (mI v_open)) (jp2 (Eq.refl (mI v_size)) (jp2 (Eq.refl (mI v_stop)) (jp2 (Eq.refl (mA v_code)) (Eq.refl (mO v_statements)))))))))))))
  · refine tl_bd6 (t_pReader_needMark (Eq.refl N) jlitI_59 (Eq.refl (mI v_at)) (Eq.refl (mI v_fault)) (Eq.refl (mI v_faultAt)) (Eq.refl (mI v_kind)) (Eq.refl (mI v_length)) (Eq.refl (mI v_stop)) (Eq.refl (mA v_tape))) (fun rc11 v_at_c11 v_fault_c11 v_faultAt_c11 v_kind_c11 v_stop_c11 => ?_)
    refine tl_ite (jc_eq (Eq.refl (mI rc11)) jlitI_0) ?_ ?_
    · exact (tl_some (jp2 jlitI_0 (jp2 (Eq.refl (mD v_D10)) (jp2 (Eq.refl (mI v_at_c11)) (jp2 (Eq.refl (mI v_fault_c11)) (jp2 (Eq.refl (mI v_faultAt_c11)) (jp2 (Eq.refl (mI v_kind_c11)) (jp2 (Eq.refl (mI v_open)) (jp2 (Eq.refl (mI v_size)) (jp2 (Eq.refl (mI v_stop_c11)) (jp2 (Eq.refl (mA v_code)) (Eq.refl (mO v_statements)))))))))))))
    · exact (tl_some (jp2 jlitI_1 (jp2 (Eq.refl (mD v_D10)) (jp2 (Eq.refl (mI v_at_c11)) (jp2 (Eq.refl (mI v_fault_c11)) (jp2 (Eq.refl (mI v_faultAt_c11)) (jp2 (Eq.refl (mI v_kind_c11)) (jp2 (Eq.refl (mI v_open)) (jp2 (Eq.refl (mI v_size)) (jp2 (Eq.refl (mI v_stop_c11)) (jp2 (Eq.refl (mA v_code)) (Eq.refl (mO v_statements)))))))))))))
theorem t_pReader_readStatement {N N_j : Nat} (t_N : N = N_j) {v_D : Dyn} {v_D_j : DynI} (t_v_D : mD v_D = v_D_j) {v_at : Int32} {v_at_j : Int} (t_v_at : mI v_at = v_at_j) {v_count : Int32} {v_count_j : Int} (t_v_count : mI v_count = v_count_j) {v_fault : Int32} {v_fault_j : Int} (t_v_fault : mI v_fault = v_fault_j) {v_faultAt : Int32} {v_faultAt_j : Int} (t_v_faultAt : mI v_faultAt = v_faultAt_j) {v_kind : Int32} {v_kind_j : Int} (t_v_kind : mI v_kind = v_kind_j) {v_length : Int32} {v_length_j : Int} (t_v_length : mI v_length = v_length_j) {v_open : Int32} {v_open_j : Int} (t_v_open : mI v_open = v_open_j) {v_size : Int32} {v_size_j : Int} (t_v_size : mI v_size = v_size_j) {v_stop : Int32} {v_stop_j : Int} (t_v_stop : mI v_stop = v_stop_j) {v_code : (Nat → Int32)} {v_code_j : (Nat → Int)} (t_v_code : mA v_code = v_code_j) {v_statements : (Nat → Option Nat)} {v_statements_j : (Nat → Option Nat)} (t_v_statements : mO v_statements = v_statements_j) {v_tape : (Nat → Int32)} {v_tape_j : (Nat → Int)} (t_v_tape : mA v_tape = v_tape_j) : tl (mP mI (mP mD (mP mI (mP mI (mP mI (mP mI (mP mI (mP mI (mP mI (mP mA mO)))))))))) (iReader_readStatement N_j v_D_j v_at_j v_count_j v_fault_j v_faultAt_j v_kind_j v_length_j v_open_j v_size_j v_stop_j v_code_j v_statements_j v_tape_j) (pReader_readStatement N v_D v_at v_count v_fault v_faultAt v_kind v_length v_open v_size v_stop v_code v_statements v_tape) := by
  subst t_N
  subst t_v_D
  subst t_v_at
  subst t_v_count
  subst t_v_fault
  subst t_v_faultAt
  subst t_v_kind
  subst t_v_length
  subst t_v_open
  subst t_v_size
  subst t_v_stop
  subst t_v_code
  subst t_v_statements
  subst t_v_tape
  unfold iReader_readStatement pReader_readStatement
  refine tl_bd1 (tl_some (T := mO) (Eq.refl _)) (fun y1 => ?_)
  refine tl_bd0 (t_pStatement_init (Eq.refl y1)) ?_
  refine tl_gd (jg_Rt (jd_New (Eq.refl (mD v_D))) (congrArg some (Eq.refl y1))) (fun _ => ?_)
  refine tl_gd (jg_ib (Eq.refl (mI v_count))) (fun _ => ?_)
  refine tl_bd1 (jt_PI (jd_New (Eq.refl (mD v_D))) (Eq.refl (mI v_size))) (fun v_D5 => ?_)
  refine tl_bd10 (t_pReader_readDuty (Eq.refl N) (congrArg some (Eq.refl y1)) (Eq.refl (mD v_D5)) (Eq.refl (mI v_at)) (Eq.refl (mI v_fault)) (Eq.refl (mI v_faultAt)) (Eq.refl (mI v_kind)) (Eq.refl (mI v_length)) (Eq.refl (mI v_open)) (Eq.refl (mI v_size)) (Eq.refl (mI v_stop)) (Eq.refl (mA v_code)) (Eq.refl (mA v_tape))) (fun rc6 v_D_c6 v_at_c6 v_fault_c6 v_faultAt_c6 v_kind_c6 v_open_c6 v_size_c6 v_stop_c6 v_code_c6 => ?_)
  refine tl_bd1 (jt_PI (Eq.refl (mD v_D_c6)) (Eq.refl (mI v_size_c6))) (fun v_D7 => ?_)
  refine tl_ite (jc_eq (Eq.refl (mI rc6)) jlitI_0) ?_ ?_
  · exact (t_pReader_readStatement_b65 (Eq.refl N) (Eq.refl (mI v_count)) (Eq.refl (mI v_length)) (Eq.refl (mA v_tape)) (Eq.refl y1) jlitI_0 (Eq.refl (mD v_D7)) (Eq.refl (mI v_at_c6)) (Eq.refl (mI v_fault_c6)) (Eq.refl (mI v_faultAt_c6)) (Eq.refl (mI v_kind_c6)) (Eq.refl (mI v_open_c6)) (Eq.refl (mI v_size_c6)) (Eq.refl (mI v_stop_c6)) (Eq.refl (mA v_code_c6)) (jupO (Eq.refl (mO v_statements)) (jx (Eq.refl (mI v_count))) (congrArg some (Eq.refl y1))))
  · refine tl_bd6 (t_pReader_needWord (Eq.refl N) (Eq.refl _) (Eq.refl (mI v_at_c6)) (Eq.refl (mI v_fault_c6)) (Eq.refl (mI v_faultAt_c6)) (Eq.refl (mI v_kind_c6)) (Eq.refl (mI v_length)) (Eq.refl (mI v_stop_c6)) (Eq.refl (mA v_tape))) (fun rc8 v_at_c8 v_fault_c8 v_faultAt_c8 v_kind_c8 v_stop_c8 => ?_)
    refine tl_ite (jc_eq (Eq.refl (mI rc8)) jlitI_0) ?_ ?_
    · exact (t_pReader_readStatement_b65 (Eq.refl N) (Eq.refl (mI v_count)) (Eq.refl (mI v_length)) (Eq.refl (mA v_tape)) (Eq.refl y1) jlitI_0 (Eq.refl (mD v_D7)) (Eq.refl (mI v_at_c8)) (Eq.refl (mI v_fault_c8)) (Eq.refl (mI v_faultAt_c8)) (Eq.refl (mI v_kind_c8)) (Eq.refl (mI v_open_c6)) (Eq.refl (mI v_size_c6)) (Eq.refl (mI v_stop_c8)) (Eq.refl (mA v_code_c6)) (jupO (Eq.refl (mO v_statements)) (jx (Eq.refl (mI v_count))) (congrArg some (Eq.refl y1))))
    · refine tl_bd9 (t_pReader_readTest (Eq.refl N) (Eq.refl (mI v_at_c8)) (Eq.refl (mI v_fault_c8)) (Eq.refl (mI v_faultAt_c8)) (Eq.refl (mI v_kind_c8)) (Eq.refl (mI v_length)) (Eq.refl (mI v_open_c6)) (Eq.refl (mI v_size_c6)) (Eq.refl (mI v_stop_c8)) (Eq.refl (mA v_code_c6)) (Eq.refl (mA v_tape))) (fun rc9 v_at_c9 v_fault_c9 v_faultAt_c9 v_kind_c9 v_open_c9 v_size_c9 v_stop_c9 v_code_c9 => ?_)
      refine tl_ite (jc_eq (Eq.refl (mI rc9)) jlitI_0) ?_ ?_
      · exact (t_pReader_readStatement_b65 (Eq.refl N) (Eq.refl (mI v_count)) (Eq.refl (mI v_length)) (Eq.refl (mA v_tape)) (Eq.refl y1) jlitI_0 (Eq.refl (mD v_D7)) (Eq.refl (mI v_at_c9)) (Eq.refl (mI v_fault_c9)) (Eq.refl (mI v_faultAt_c9)) (Eq.refl (mI v_kind_c9)) (Eq.refl (mI v_open_c9)) (Eq.refl (mI v_size_c9)) (Eq.refl (mI v_stop_c9)) (Eq.refl (mA v_code_c9)) (jupO (Eq.refl (mO v_statements)) (jx (Eq.refl (mI v_count))) (congrArg some (Eq.refl y1))))
      · exact (t_pReader_readStatement_b65 (Eq.refl N) (Eq.refl (mI v_count)) (Eq.refl (mI v_length)) (Eq.refl (mA v_tape)) (Eq.refl y1) jlitI_1 (Eq.refl (mD v_D7)) (Eq.refl (mI v_at_c9)) (Eq.refl (mI v_fault_c9)) (Eq.refl (mI v_faultAt_c9)) (Eq.refl (mI v_kind_c9)) (Eq.refl (mI v_open_c9)) (Eq.refl (mI v_size_c9)) (Eq.refl (mI v_stop_c9)) (Eq.refl (mA v_code_c9)) (jupO (Eq.refl (mO v_statements)) (jx (Eq.refl (mI v_count))) (congrArg some (Eq.refl y1))))
theorem t_pReader_read_b41_F {N N_j : Nat} (t_N : N = N_j) {v_tape : (Nat → Int32)} {v_tape_j : (Nat → Int)} (t_v_tape : mA v_tape = v_tape_j) {v_length : Int32} {v_length_j : Int} (t_v_length : mI v_length = v_length_j) {k79 : Int32 → Dyn → Int32 → Int32 → Int32 → Int32 → Int32 → Int32 → Int32 → Int32 → (Nat → Int32) → (Nat → Option Nat) → Option R_pReader_read} {k79_j : Int → DynI → Int → Int → Int → Int → Int → Int → Int → Int → (Nat → Int) → (Nat → Option Nat) → Option R_iReader_read} (t_k79 : ∀ (q0_ : Int32) (q1_ : Dyn) (q2_ : Int32) (q3_ : Int32) (q4_ : Int32) (q5_ : Int32) (q6_ : Int32) (q7_ : Int32) (q8_ : Int32) (q9_ : Int32) (q10_ : (Nat → Int32)) (q11_ : (Nat → Option Nat)), tl (mP mO (mP mD (mP mI (mP mI (mP mI (mP mI (mP mI (mP mI (mP mI (mP mI (mP mI (mP mA mO)))))))))))) (k79_j (mI q0_) (mD q1_) (mI q2_) (mI q3_) (mI q4_) (mI q5_) (mI q6_) (mI q7_) (mI q8_) (mI q9_) (mA q10_) (mO q11_)) (k79 q0_ q1_ q2_ q3_ q4_ q5_ q6_ q7_ q8_ q9_ q10_ q11_)) {self : Int32 → Dyn → Int32 → Int32 → Int32 → Int32 → Int32 → Int32 → Int32 → Int32 → (Nat → Int32) → (Nat → Option Nat) → Option R_pReader_read} {self_j : Int → DynI → Int → Int → Int → Int → Int → Int → Int → Int → (Nat → Int) → (Nat → Option Nat) → Option R_iReader_read} (t_self : ∀ (q0_ : Int32) (q1_ : Dyn) (q2_ : Int32) (q3_ : Int32) (q4_ : Int32) (q5_ : Int32) (q6_ : Int32) (q7_ : Int32) (q8_ : Int32) (q9_ : Int32) (q10_ : (Nat → Int32)) (q11_ : (Nat → Option Nat)), tl (mP mO (mP mD (mP mI (mP mI (mP mI (mP mI (mP mI (mP mI (mP mI (mP mI (mP mI (mP mA mO)))))))))))) (self_j (mI q0_) (mD q1_) (mI q2_) (mI q3_) (mI q4_) (mI q5_) (mI q6_) (mI q7_) (mI q8_) (mI q9_) (mA q10_) (mO q11_)) (self q0_ q1_ q2_ q3_ q4_ q5_ q6_ q7_ q8_ q9_ q10_ q11_)) {x1 : Int32} {x1_j : Int} (t_x1 : mI x1 = x1_j) {v_D : Dyn} {v_D_j : DynI} (t_v_D : mD v_D = v_D_j) {v_at : Int32} {v_at_j : Int} (t_v_at : mI v_at = v_at_j) {v_count : Int32} {v_count_j : Int} (t_v_count : mI v_count = v_count_j) {v_fault : Int32} {v_fault_j : Int} (t_v_fault : mI v_fault = v_fault_j) {v_faultAt : Int32} {v_faultAt_j : Int} (t_v_faultAt : mI v_faultAt = v_faultAt_j) {v_kind : Int32} {v_kind_j : Int} (t_v_kind : mI v_kind = v_kind_j) {v_open : Int32} {v_open_j : Int} (t_v_open : mI v_open = v_open_j) {v_size : Int32} {v_size_j : Int} (t_v_size : mI v_size = v_size_j) {v_stop : Int32} {v_stop_j : Int} (t_v_stop : mI v_stop = v_stop_j) {v_code : (Nat → Int32)} {v_code_j : (Nat → Int)} (t_v_code : mA v_code = v_code_j) {v_statements : (Nat → Option Nat)} {v_statements_j : (Nat → Option Nat)} (t_v_statements : mO v_statements = v_statements_j) : tl (mP mO (mP mD (mP mI (mP mI (mP mI (mP mI (mP mI (mP mI (mP mI (mP mI (mP mI (mP mA mO)))))))))))) (iReader_read_b41_F N_j v_tape_j v_length_j k79_j self_j x1_j v_D_j v_at_j v_count_j v_fault_j v_faultAt_j v_kind_j v_open_j v_size_j v_stop_j v_code_j v_statements_j) (pReader_read_b41_F N v_tape v_length k79 self x1 v_D v_at v_count v_fault v_faultAt v_kind v_open v_size v_stop v_code v_statements) := by
  subst t_N
  subst t_v_tape
  subst t_v_length
  subst t_x1
  subst t_v_D
  subst t_v_at
  subst t_v_count
  subst t_v_fault
  subst t_v_faultAt
  subst t_v_kind
  subst t_v_open
  subst t_v_size
  subst t_v_stop
  subst t_v_code
  subst t_v_statements
  unfold iReader_read_b41_F pReader_read_b41_F
  refine tl_gd (jg_ib (Eq.refl (mI v_count))) (fun _ => ?_)
  refine tl_ite (jc_eq (Eq.refl (mI x1)) jlitI_0) ?_ ?_
  · exact (tl_e12 (Eq.refl (mI x1)) (Eq.refl (mD v_D)) (Eq.refl (mI v_at)) (Eq.refl (mI v_count)) (Eq.refl (mI v_fault)) (Eq.refl (mI v_faultAt)) (Eq.refl (mI v_kind)) (Eq.refl (mI v_open)) (Eq.refl (mI v_size)) (Eq.refl (mI v_stop)) (Eq.refl (mA v_code)) (Eq.refl (mO v_statements)) (t_k79 _ _ _ _ _ _ _ _ _ _ _ _))
  · refine tl_ite (jc_eq (Eq.refl (mI v_kind)) jlitI_0) ?_ ?_
    · exact (tl_e12 (Eq.refl (mI x1)) (Eq.refl (mD v_D)) (Eq.refl (mI v_at)) (Eq.refl (mI v_count)) (Eq.refl (mI v_fault)) (Eq.refl (mI v_faultAt)) (Eq.refl (mI v_kind)) (Eq.refl (mI v_open)) (Eq.refl (mI v_size)) (Eq.refl (mI v_stop)) (Eq.refl (mA v_code)) (Eq.refl (mO v_statements)) (t_k79 _ _ _ _ _ _ _ _ _ _ _ _))
    · refine tl_ite (jc_le jlitI_24 (Eq.refl (mI v_count))) ?_ ?_
      · exact (tl_e12 (Eq.refl (mI x1)) (Eq.refl (mD v_D)) (Eq.refl (mI v_at)) (Eq.refl (mI v_count)) (Eq.refl (mI v_fault)) (Eq.refl (mI v_faultAt)) (Eq.refl (mI v_kind)) (Eq.refl (mI v_open)) (Eq.refl (mI v_size)) (Eq.refl (mI v_stop)) (Eq.refl (mA v_code)) (Eq.refl (mO v_statements)) (t_k79 _ _ _ _ _ _ _ _ _ _ _ _))
      · refine tl_bd11 (t_pReader_readStatement (Eq.refl N) (Eq.refl (mD v_D)) (Eq.refl (mI v_at)) (Eq.refl (mI v_count)) (Eq.refl (mI v_fault)) (Eq.refl (mI v_faultAt)) (Eq.refl (mI v_kind)) (Eq.refl (mI v_length)) (Eq.refl (mI v_open)) (Eq.refl (mI v_size)) (Eq.refl (mI v_stop)) (Eq.refl (mA v_code)) (Eq.refl (mO v_statements)) (Eq.refl (mA v_tape))) (fun rc3 v_D_c3 v_at_c3 v_fault_c3 v_faultAt_c3 v_kind_c3 v_open_c3 v_size_c3 v_stop_c3 v_code_c3 v_statements_c3 => ?_)
        refine tl_g (fun h1 => ?_)
        exact (tl_e12 (Eq.refl (mI rc3)) (Eq.refl (mD v_D_c3)) (Eq.refl (mI v_at_c3)) (ja_add (Eq.refl (mI v_count)) jlitI_1 h1) (Eq.refl (mI v_fault_c3)) (Eq.refl (mI v_faultAt_c3)) (Eq.refl (mI v_kind_c3)) (Eq.refl (mI v_open_c3)) (Eq.refl (mI v_size_c3)) (Eq.refl (mI v_stop_c3)) (Eq.refl (mA v_code_c3)) (Eq.refl (mO v_statements_c3)) (t_self _ _ _ _ _ _ _ _ _ _ _ _))
theorem t_pReader_read_b41 {N N_j : Nat} (t_N : N = N_j) {v_tape : (Nat → Int32)} {v_tape_j : (Nat → Int)} (t_v_tape : mA v_tape = v_tape_j) {v_length : Int32} {v_length_j : Int} (t_v_length : mI v_length = v_length_j) {k79 : Int32 → Dyn → Int32 → Int32 → Int32 → Int32 → Int32 → Int32 → Int32 → Int32 → (Nat → Int32) → (Nat → Option Nat) → Option R_pReader_read} {k79_j : Int → DynI → Int → Int → Int → Int → Int → Int → Int → Int → (Nat → Int) → (Nat → Option Nat) → Option R_iReader_read} (t_k79 : ∀ (q0_ : Int32) (q1_ : Dyn) (q2_ : Int32) (q3_ : Int32) (q4_ : Int32) (q5_ : Int32) (q6_ : Int32) (q7_ : Int32) (q8_ : Int32) (q9_ : Int32) (q10_ : (Nat → Int32)) (q11_ : (Nat → Option Nat)), tl (mP mO (mP mD (mP mI (mP mI (mP mI (mP mI (mP mI (mP mI (mP mI (mP mI (mP mI (mP mA mO)))))))))))) (k79_j (mI q0_) (mD q1_) (mI q2_) (mI q3_) (mI q4_) (mI q5_) (mI q6_) (mI q7_) (mI q8_) (mI q9_) (mA q10_) (mO q11_)) (k79 q0_ q1_ q2_ q3_ q4_ q5_ q6_ q7_ q8_ q9_ q10_ q11_)) {n n_j : Nat} (t_n : n = n_j) {w0_ : Int32} {w0__j : Int} (t_w0_ : mI w0_ = w0__j) {w1_ : Dyn} {w1__j : DynI} (t_w1_ : mD w1_ = w1__j) {w2_ : Int32} {w2__j : Int} (t_w2_ : mI w2_ = w2__j) {w3_ : Int32} {w3__j : Int} (t_w3_ : mI w3_ = w3__j) {w4_ : Int32} {w4__j : Int} (t_w4_ : mI w4_ = w4__j) {w5_ : Int32} {w5__j : Int} (t_w5_ : mI w5_ = w5__j) {w6_ : Int32} {w6__j : Int} (t_w6_ : mI w6_ = w6__j) {w7_ : Int32} {w7__j : Int} (t_w7_ : mI w7_ = w7__j) {w8_ : Int32} {w8__j : Int} (t_w8_ : mI w8_ = w8__j) {w9_ : Int32} {w9__j : Int} (t_w9_ : mI w9_ = w9__j) {w10_ : (Nat → Int32)} {w10__j : (Nat → Int)} (t_w10_ : mA w10_ = w10__j) {w11_ : (Nat → Option Nat)} {w11__j : (Nat → Option Nat)} (t_w11_ : mO w11_ = w11__j) : tl (mP mO (mP mD (mP mI (mP mI (mP mI (mP mI (mP mI (mP mI (mP mI (mP mI (mP mI (mP mA mO)))))))))))) (iReader_read_b41 N_j v_tape_j v_length_j k79_j n_j w0__j w1__j w2__j w3__j w4__j w5__j w6__j w7__j w8__j w9__j w10__j w11__j) (pReader_read_b41 N v_tape v_length k79 n w0_ w1_ w2_ w3_ w4_ w5_ w6_ w7_ w8_ w9_ w10_ w11_) := by
  subst t_N
  subst t_v_tape
  subst t_v_length
  subst t_n
  subst t_w0_
  subst t_w1_
  subst t_w2_
  subst t_w3_
  subst t_w4_
  subst t_w5_
  subst t_w6_
  subst t_w7_
  subst t_w8_
  subst t_w9_
  subst t_w10_
  subst t_w11_
  exact tl_zlp12 (fun s2 s hs w0_ w1_ w2_ w3_ w4_ w5_ w6_ w7_ w8_ w9_ w10_ w11_ => t_pReader_read_b41_F (Eq.refl N) (Eq.refl (mA v_tape)) (Eq.refl (mI v_length)) t_k79 hs (Eq.refl (mI w0_)) (Eq.refl (mD w1_)) (Eq.refl (mI w2_)) (Eq.refl (mI w3_)) (Eq.refl (mI w4_)) (Eq.refl (mI w5_)) (Eq.refl (mI w6_)) (Eq.refl (mI w7_)) (Eq.refl (mI w8_)) (Eq.refl (mI w9_)) (Eq.refl (mA w10_)) (Eq.refl (mO w11_))) n w0_ w1_ w2_ w3_ w4_ w5_ w6_ w7_ w8_ w9_ w10_ w11_
theorem t_pReader_read_b100 {N N_j : Nat} (t_N : N = N_j) {v_tape : (Nat → Int32)} {v_tape_j : (Nat → Int)} (t_v_tape : mA v_tape = v_tape_j) {x1 : Int32} {x1_j : Int} (t_x1 : mI x1 = x1_j) {v_D : Dyn} {v_D_j : DynI} (t_v_D : mD v_D = v_D_j) {v_at : Int32} {v_at_j : Int} (t_v_at : mI v_at = v_at_j) {v_count : Int32} {v_count_j : Int} (t_v_count : mI v_count = v_count_j) {v_fault : Int32} {v_fault_j : Int} (t_v_fault : mI v_fault = v_fault_j) {v_faultAt : Int32} {v_faultAt_j : Int} (t_v_faultAt : mI v_faultAt = v_faultAt_j) {v_kind : Int32} {v_kind_j : Int} (t_v_kind : mI v_kind = v_kind_j) {v_length : Int32} {v_length_j : Int} (t_v_length : mI v_length = v_length_j) {v_open : Int32} {v_open_j : Int} (t_v_open : mI v_open = v_open_j) {v_size : Int32} {v_size_j : Int} (t_v_size : mI v_size = v_size_j) {v_stop : Int32} {v_stop_j : Int} (t_v_stop : mI v_stop = v_stop_j) {v_code : (Nat → Int32)} {v_code_j : (Nat → Int)} (t_v_code : mA v_code = v_code_j) {v_statements : (Nat → Option Nat)} {v_statements_j : (Nat → Option Nat)} (t_v_statements : mO v_statements = v_statements_j) : tl (mP mO (mP mD (mP mI (mP mI (mP mI (mP mI (mP mI (mP mI (mP mI (mP mI (mP mI (mP mA mO)))))))))))) (iReader_read_b100 N_j v_tape_j x1_j v_D_j v_at_j v_count_j v_fault_j v_faultAt_j v_kind_j v_length_j v_open_j v_size_j v_stop_j v_code_j v_statements_j) (pReader_read_b100 N v_tape x1 v_D v_at v_count v_fault v_faultAt v_kind v_length v_open v_size v_stop v_code v_statements) := by
  subst t_N
  subst t_v_tape
  subst t_x1
  subst t_v_D
  subst t_v_at
  subst t_v_count
  subst t_v_fault
  subst t_v_faultAt
  subst t_v_kind
  subst t_v_length
  subst t_v_open
  subst t_v_size
  subst t_v_stop
  subst t_v_code
  subst t_v_statements
  unfold iReader_read_b100 pReader_read_b100
  refine tl_bd1 (t_pReader_wipe (Eq.refl (mI v_length))) (fun v_length_c5 => ?_)
  refine tl_ite (jc_eq (Eq.refl (mI x1)) jlitI_0) ?_ ?_
  · exact (tl_some (jp2 (Eq.refl none) (jp2 (Eq.refl (mD v_D)) (jp2 (Eq.refl (mI v_at)) (jp2 (Eq.refl (mI v_count)) (jp2 (Eq.refl (mI v_fault)) (jp2 (Eq.refl (mI v_faultAt)) (jp2 (Eq.refl (mI v_kind)) (jp2 (Eq.refl (mI v_length_c5)) (jp2 (Eq.refl (mI v_open)) (jp2 (Eq.refl (mI v_size)) (jp2 (Eq.refl (mI v_stop)) (jp2 (Eq.refl (mA v_code)) (Eq.refl (mO v_statements)))))))))))))))
  · refine tl_bd1 (tl_some (T := mO) (Eq.refl _)) (fun y6 => ?_)
    refine tl_bd1 (t_pWrit_init (Eq.refl y6) (Eq.refl (mI v_count)) (Eq.refl (mI v_size)) (Eq.refl (mO v_statements)) (Eq.refl (mA v_code)) (jd_New (Eq.refl (mD v_D)))) (fun v_D_c7 => ?_)
    exact (tl_some (jp2 (congrArg some (Eq.refl y6)) (jp2 (Eq.refl (mD v_D_c7)) (jp2 (Eq.refl (mI v_at)) (jp2 (Eq.refl (mI v_count)) (jp2 (Eq.refl (mI v_fault)) (jp2 (Eq.refl (mI v_faultAt)) (jp2 (Eq.refl (mI v_kind)) (jp2 (Eq.refl (mI v_length_c5)) (jp2 (Eq.refl (mI v_open)) (jp2 (Eq.refl (mI v_size)) (jp2 (Eq.refl (mI v_stop)) (jp2 (Eq.refl (mA v_code)) (Eq.refl (mO v_statements)))))))))))))))
theorem t_pReader_read_b79 {N N_j : Nat} (t_N : N = N_j) {v_tape : (Nat → Int32)} {v_tape_j : (Nat → Int)} (t_v_tape : mA v_tape = v_tape_j) {x1 : Int32} {x1_j : Int} (t_x1 : mI x1 = x1_j) {v_D : Dyn} {v_D_j : DynI} (t_v_D : mD v_D = v_D_j) {v_at : Int32} {v_at_j : Int} (t_v_at : mI v_at = v_at_j) {v_count : Int32} {v_count_j : Int} (t_v_count : mI v_count = v_count_j) {v_fault : Int32} {v_fault_j : Int} (t_v_fault : mI v_fault = v_fault_j) {v_faultAt : Int32} {v_faultAt_j : Int} (t_v_faultAt : mI v_faultAt = v_faultAt_j) {v_kind : Int32} {v_kind_j : Int} (t_v_kind : mI v_kind = v_kind_j) {v_length : Int32} {v_length_j : Int} (t_v_length : mI v_length = v_length_j) {v_open : Int32} {v_open_j : Int} (t_v_open : mI v_open = v_open_j) {v_size : Int32} {v_size_j : Int} (t_v_size : mI v_size = v_size_j) {v_stop : Int32} {v_stop_j : Int} (t_v_stop : mI v_stop = v_stop_j) {v_code : (Nat → Int32)} {v_code_j : (Nat → Int)} (t_v_code : mA v_code = v_code_j) {v_statements : (Nat → Option Nat)} {v_statements_j : (Nat → Option Nat)} (t_v_statements : mO v_statements = v_statements_j) : tl (mP mO (mP mD (mP mI (mP mI (mP mI (mP mI (mP mI (mP mI (mP mI (mP mI (mP mI (mP mA mO)))))))))))) (iReader_read_b79 N_j v_tape_j x1_j v_D_j v_at_j v_count_j v_fault_j v_faultAt_j v_kind_j v_length_j v_open_j v_size_j v_stop_j v_code_j v_statements_j) (pReader_read_b79 N v_tape x1 v_D v_at v_count v_fault v_faultAt v_kind v_length v_open v_size v_stop v_code v_statements) := by
  subst t_N
  subst t_v_tape
  subst t_x1
  subst t_v_D
  subst t_v_at
  subst t_v_count
  subst t_v_fault
  subst t_v_faultAt
  subst t_v_kind
  subst t_v_length
  subst t_v_open
  subst t_v_size
  subst t_v_stop
  subst t_v_code
  subst t_v_statements
  unfold iReader_read_b79 pReader_read_b79
  refine tl_ite (jc_eq (Eq.refl (mI x1)) jlitI_0) ?_ ?_
  · exact (t_pReader_read_b100 (Eq.refl N) (Eq.refl (mA v_tape)) (Eq.refl (mI x1)) (Eq.refl (mD v_D)) (Eq.refl (mI v_at)) (Eq.refl (mI v_count)) (Eq.refl (mI v_fault)) (Eq.refl (mI v_faultAt)) (Eq.refl (mI v_kind)) (Eq.refl (mI v_length)) (Eq.refl (mI v_open)) (Eq.refl (mI v_size)) (Eq.refl (mI v_stop)) (Eq.refl (mA v_code)) (Eq.refl (mO v_statements)))
  · refine tl_ite (jc_eq (Eq.refl (mI v_kind)) jlitI_0) ?_ ?_
    · exact (t_pReader_read_b100 (Eq.refl N) (Eq.refl (mA v_tape)) (Eq.refl (mI x1)) (Eq.refl (mD v_D)) (Eq.refl (mI v_at)) (Eq.refl (mI v_count)) (Eq.refl (mI v_fault)) (Eq.refl (mI v_faultAt)) (Eq.refl (mI v_kind)) (Eq.refl (mI v_length)) (Eq.refl (mI v_open)) (Eq.refl (mI v_size)) (Eq.refl (mI v_stop)) (Eq.refl (mA v_code)) (Eq.refl (mO v_statements)))
    · refine tl_bd3 (t_pReader_fail jlitI_4 (Eq.refl (mI v_at)) (Eq.refl (mI v_fault)) (Eq.refl (mI v_faultAt))) (fun rc4 v_fault_c4 v_faultAt_c4 => ?_)
      exact (t_pReader_read_b100 (Eq.refl N) (Eq.refl (mA v_tape)) (Eq.refl (mI rc4)) (Eq.refl (mD v_D)) (Eq.refl (mI v_at)) (Eq.refl (mI v_count)) (Eq.refl (mI v_fault_c4)) (Eq.refl (mI v_faultAt_c4)) (Eq.refl (mI v_kind)) (Eq.refl (mI v_length)) (Eq.refl (mI v_open)) (Eq.refl (mI v_size)) (Eq.refl (mI v_stop)) (Eq.refl (mA v_code)) (Eq.refl (mO v_statements)))
theorem t_pReader_read {N N_j : Nat} (t_N : N = N_j) {v_D : Dyn} {v_D_j : DynI} (t_v_D : mD v_D = v_D_j) {v_at : Int32} {v_at_j : Int} (t_v_at : mI v_at = v_at_j) {v_count : Int32} {v_count_j : Int} (t_v_count : mI v_count = v_count_j) {v_fault : Int32} {v_fault_j : Int} (t_v_fault : mI v_fault = v_fault_j) {v_faultAt : Int32} {v_faultAt_j : Int} (t_v_faultAt : mI v_faultAt = v_faultAt_j) {v_kind : Int32} {v_kind_j : Int} (t_v_kind : mI v_kind = v_kind_j) {v_length : Int32} {v_length_j : Int} (t_v_length : mI v_length = v_length_j) {v_open : Int32} {v_open_j : Int} (t_v_open : mI v_open = v_open_j) {v_size : Int32} {v_size_j : Int} (t_v_size : mI v_size = v_size_j) {v_stop : Int32} {v_stop_j : Int} (t_v_stop : mI v_stop = v_stop_j) {v_code : (Nat → Int32)} {v_code_j : (Nat → Int)} (t_v_code : mA v_code = v_code_j) {v_statements : (Nat → Option Nat)} {v_statements_j : (Nat → Option Nat)} (t_v_statements : mO v_statements = v_statements_j) {v_tape : (Nat → Int32)} {v_tape_j : (Nat → Int)} (t_v_tape : mA v_tape = v_tape_j) : tl (mP mO (mP mD (mP mI (mP mI (mP mI (mP mI (mP mI (mP mI (mP mI (mP mI (mP mI (mP mA mO)))))))))))) (iReader_read N_j v_D_j v_at_j v_count_j v_fault_j v_faultAt_j v_kind_j v_length_j v_open_j v_size_j v_stop_j v_code_j v_statements_j v_tape_j) (pReader_read N v_D v_at v_count v_fault v_faultAt v_kind v_length v_open v_size v_stop v_code v_statements v_tape) := by
  subst t_N
  subst t_v_D
  subst t_v_at
  subst t_v_count
  subst t_v_fault
  subst t_v_faultAt
  subst t_v_kind
  subst t_v_length
  subst t_v_open
  subst t_v_size
  subst t_v_stop
  subst t_v_code
  subst t_v_statements
  subst t_v_tape
  unfold iReader_read pReader_read
  refine tl_bd3 (t_pReader_next (Eq.refl N) (Eq.refl (mI v_at)) jlitI_3 (Eq.refl (mI v_length)) jlitI_0 (Eq.refl (mA v_tape))) (fun v_at_c1 v_kind_c1 v_stop_c1 => ?_)
  exact (t_pReader_read_b41 (Eq.refl N) (Eq.refl (mA v_tape)) (Eq.refl (mI v_length)) (fun x1_k1 v_D_k2 v_at_k3 v_count_k4 v_fault_k5 v_faultAt_k6 v_kind_k7 e10_ e11_ e12_ e13_ e14_ => by exact (t_pReader_read_b79 (Eq.refl N) (Eq.refl (mA v_tape)) (Eq.refl (mI x1_k1)) (Eq.refl (mD v_D_k2)) (Eq.refl (mI v_at_k3)) (Eq.refl (mI v_count_k4)) (Eq.refl (mI v_fault_k5)) (Eq.refl (mI v_faultAt_k6)) (Eq.refl (mI v_kind_k7)) (Eq.refl (mI v_length)) (Eq.refl (mI e10_)) (Eq.refl (mI e11_)) (Eq.refl (mI e12_)) (Eq.refl (mA e13_)) (Eq.refl (mO e14_)))) (Eq.refl N) jlitI_1 (Eq.refl (mD v_D)) (Eq.refl (mI v_at_c1)) jlitI_0 jlitI_0 jlitI_m1 (Eq.refl (mI v_kind_c1)) jlitI_0 jlitI_0 (Eq.refl (mI v_stop_c1)) (Eq.refl (mA v_code)) (Eq.refl (mO v_statements)))
theorem t_pReader_faultFound {v_fault : Int32} {v_fault_j : Int} (t_v_fault : mI v_fault = v_fault_j) : tl (mI) (iReader_faultFound v_fault_j) (pReader_faultFound v_fault) := by
  subst t_v_fault
  unfold iReader_faultFound pReader_faultFound
  exact (tl_some (Eq.refl (mI v_fault)))
theorem t_pReader_faultPlace {v_faultAt : Int32} {v_faultAt_j : Int} (t_v_faultAt : mI v_faultAt = v_faultAt_j) : tl (mI) (iReader_faultPlace v_faultAt_j) (pReader_faultPlace v_faultAt) := by
  subst t_v_faultAt
  unfold iReader_faultPlace pReader_faultPlace
  exact (tl_some (Eq.refl (mI v_faultAt)))
