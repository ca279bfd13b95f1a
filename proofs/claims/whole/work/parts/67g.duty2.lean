set_option maxHeartbeats 4000000
set_option maxRecDepth 100000
theorem rd_no [Inhabited Frm] {n : Nat} {T : Nat → Int} {q : Nat} {e : Int} (hn : n ≤ 600) (hTT : ∀ k, 0 ≤ T k ∧ T k ≤ 255) (n0 : ¬ tW T n 0 q e) (n11 : ¬ tW T n 11 q e) (n12 : ¬ tW T n 12 q e) (n14 : ¬ tW T n 14 q e)  : RDbad T n q e 1 q := by
  intro N W x i bp bs s o w v fi ib mn se so sE sF tE wt L Q hN hW hx hxq hmn hi hv hL hQ
  have ei : (i : Int).toNat = i := rfl
  have hq : q ≤ n := by rw [← hxq]; exact lR_le hx
  have hqq : tSk T n q = q := by rw [← hxq]; exact lR_id
  have z0 := tS_le (T := T) (n := n) (q := q) hq
  have z1 : tS T n q ≤ tSk T n (tS T n q) := lR_ge
  have z2 : tSk T n (tS T n q) ≤ n := lR_le z0.2.1
  have y0 := tS_le (T := T) (n := n) (q := tSk T n (tS T n q)) z2
  unfold RSt iM_statement
  rw [wp_bd2, w_lookM hN hn hx, wp_some, hxq, hmn, Int.zero_add, ei, if_neg (show ¬ (i : Int) = 24 by omega), wp_gd, wp_gd]
  refine ⟨jr_iff.mpr (by omega), jb_iff.mpr (by omega), ?_⟩
  rw [wp_bd3]
  refine w_takes hN hn hq (wdk hW (a := 0) (by decide) rfl) (fun t => absurd (by rw [hqq] at t; exact t) n0) (fun _ => ?_)
  rw [hqq]
  show wp (if (0 : Int) = 0 then _ else _) _
  rw [if_pos rfl]
  rw [wp_bd3]
  refine w_takes hN hn hq (wdk hW (a := 11) (by decide) rfl) (fun t => absurd (by rw [hqq] at t; exact t) n11) (fun _ => ?_)
  rw [hqq]
  show wp (if (0 : Int) = 0 then _ else _) _
  rw [if_pos rfl]
  rw [wp_bd3]
  refine w_takes hN hn hq (wdk hW (a := 12) (by decide) rfl) (fun t => absurd (by rw [hqq] at t; exact t) n12) (fun _ => ?_)
  rw [hqq]
  show wp (if (0 : Int) = 0 then _ else _) _
  rw [if_pos rfl]
  rw [wp_bd3]
  refine w_takes hN hn hq (wdk hW (a := 14) (by decide) rfl) (fun t => absurd (by rw [hqq] at t; exact t) n14) (fun _ => ?_)
  rw [hqq]
  show wp (if (0 : Int) = 0 then _ else _) _
  rw [if_pos rfl]
  rw [wp_bd2]
  unfold iM_fail
  rw [if_pos rfl, wp_some]
  exact hQ (by decide) _ _ _ _ _ _ _ _ _ _ _ _ (cod_t hv (by omega)) (kpt_1 _ _ _) (kpt_1 _ _ _) (kpt_1 _ _ _) (fun _ _ => rfl)
theorem rd_farm1 [Inhabited Frm] {n : Nat} {T : Nat → Int} {q : Nat} {e : Int} (hn : n ≤ 600) (hTT : ∀ k, 0 ≤ T k ∧ T k ≤ 255)  (hj : tW T n 0 q e) {q2 : Nat} {e2 : Int} {l : List Int} (h : RSok T n (tSk T n (tS T n q)) (tS T n q : Nat) 0 q2 e2 l) (hp : plc T n (tSk T n (tS T n q)) q2 e2 l) (hb : tW T n 10 q2 e2) : RDok T n q e (tSk T n (tS T n q2)) (tS T n q2 : Nat) 1 1 0 0 l := by
  intro N W x i bp bs s o w v fi ib mn se so sE sF tE wt L Q hN hW hx hxq hmn hi hv hL hQ
  have ei : (i : Int).toNat = i := rfl
  have hq : q ≤ n := by rw [← hxq]; exact lR_le hx
  have hqq : tSk T n q = q := by rw [← hxq]; exact lR_id
  have z0 := tS_le (T := T) (n := n) (q := q) hq
  have z1 : tS T n q ≤ tSk T n (tS T n q) := lR_ge
  have z2 : tSk T n (tS T n q) ≤ n := lR_le z0.2.1
  have y0 := tS_le (T := T) (n := n) (q := tSk T n (tS T n q)) z2
  unfold RSt iM_statement
  rw [wp_bd2, w_lookM hN hn hx, wp_some, hxq, hmn, Int.zero_add, ei, if_neg (show ¬ (i : Int) = 24 by omega), wp_gd, wp_gd]
  refine ⟨jr_iff.mpr (by omega), jb_iff.mpr (by omega), ?_⟩
  rw [wp_bd3]
  refine w_takes hN hn hq (wdk hW (a := 0) (by decide) rfl) (fun _ => ?_) (fun t => absurd hj (by rw [hqq] at t; exact t))
  rw [hqq]
  show wp (if (1 : Int) = 0 then _ else _) _
  rw [if_neg (by decide)]
  rw [wp_bd10]
  refine h N W (tS T n q) bp 0 s 0 v wt L [] _ hN hW z0.2.1 rfl hv rfl trivial (show L.length + 0 ≤ _ by omega) (Nat.zero_le _) (fun x V hx => by cases hx) (fun bp2 s2 v2 k2 g1 g2 => ?_)
  obtain ⟨p1, p2, p3, p4⟩ := hp
  have x0 := tS_le (T := T) (n := n) (q := q2) p1
  show wp (bd3 (iM_takes N 8 (W 10) q2 0 n e2 T) _) Q
  rw [wp_bd3]
  refine w_takes hN hn p1 (wdk hW (a := 10) (by decide) rfl) (fun t => ?_) (fun t => absurd hb (by rw [p2] at t; exact t))
  rw [p2, show jnZ (1 : Int) = 1 by decide]
  exact hQ (tS T n q2) bp2 0 s2 v2 _ _ _ _ k2 x0.2.1 rfl g1 (updI_1 _ _ _) (updI_2 _ _ _ _) (updI_1 _ _ _) (updI_1 _ _ _)
theorem rd_farm0 [Inhabited Frm] {n : Nat} {T : Nat → Int} {q : Nat} {e : Int} (hn : n ≤ 600) (hTT : ∀ k, 0 ≤ T k ∧ T k ≤ 255)  (hj : tW T n 0 q e) {q2 : Nat} {e2 : Int} {l : List Int} (h : RSok T n (tSk T n (tS T n q)) (tS T n q : Nat) 0 q2 e2 l) (hp : plc T n (tSk T n (tS T n q)) q2 e2 l) (hb : ¬ tW T n 10 q2 e2) : RDok T n q e q2 e2 1 0 0 0 l := by
  intro N W x i bp bs s o w v fi ib mn se so sE sF tE wt L Q hN hW hx hxq hmn hi hv hL hQ
  have ei : (i : Int).toNat = i := rfl
  have hq : q ≤ n := by rw [← hxq]; exact lR_le hx
  have hqq : tSk T n q = q := by rw [← hxq]; exact lR_id
  have z0 := tS_le (T := T) (n := n) (q := q) hq
  have z1 : tS T n q ≤ tSk T n (tS T n q) := lR_ge
  have z2 : tSk T n (tS T n q) ≤ n := lR_le z0.2.1
  have y0 := tS_le (T := T) (n := n) (q := tSk T n (tS T n q)) z2
  unfold RSt iM_statement
  rw [wp_bd2, w_lookM hN hn hx, wp_some, hxq, hmn, Int.zero_add, ei, if_neg (show ¬ (i : Int) = 24 by omega), wp_gd, wp_gd]
  refine ⟨jr_iff.mpr (by omega), jb_iff.mpr (by omega), ?_⟩
  rw [wp_bd3]
  refine w_takes hN hn hq (wdk hW (a := 0) (by decide) rfl) (fun _ => ?_) (fun t => absurd hj (by rw [hqq] at t; exact t))
  rw [hqq]
  show wp (if (1 : Int) = 0 then _ else _) _
  rw [if_neg (by decide)]
  rw [wp_bd10]
  refine h N W (tS T n q) bp 0 s 0 v wt L [] _ hN hW z0.2.1 rfl hv rfl trivial (show L.length + 0 ≤ _ by omega) (Nat.zero_le _) (fun x V hx => by cases hx) (fun bp2 s2 v2 k2 g1 g2 => ?_)
  obtain ⟨p1, p2, p3, p4⟩ := hp
  have x0 := tS_le (T := T) (n := n) (q := q2) p1
  show wp (bd3 (iM_takes N 8 (W 10) q2 0 n e2 T) _) Q
  rw [wp_bd3]
  refine w_takes hN hn p1 (wdk hW (a := 10) (by decide) rfl) (fun t => absurd (by rw [p2] at t; exact t) hb) (fun t => ?_)
  rw [p2, show jnZ (0 : Int) = 0 by decide]
  exact hQ q2 bp2 0 s2 v2 _ _ _ _ k2 p1 p2 g1 (updI_1 _ _ _) (updI_2 _ _ _ _) (updI_1 _ _ _) (updI_1 _ _ _)
theorem rd_farmB [Inhabited Frm] {n : Nat} {T : Nat → Int} {q : Nat} {e : Int} (hn : n ≤ 600) (hTT : ∀ k, 0 ≤ T k ∧ T k ≤ 255)  (hj : tW T n 0 q e) {kd p : Int} (h : RSbad T n (tSk T n (tS T n q)) (tS T n q : Nat) 0 kd p) : RDbad T n q e kd p := by
  intro N W x i bp bs s o w v fi ib mn se so sE sF tE wt L Q hN hW hx hxq hmn hi hv hL hQ
  have ei : (i : Int).toNat = i := rfl
  have hq : q ≤ n := by rw [← hxq]; exact lR_le hx
  have hqq : tSk T n q = q := by rw [← hxq]; exact lR_id
  have z0 := tS_le (T := T) (n := n) (q := q) hq
  have z1 : tS T n q ≤ tSk T n (tS T n q) := lR_ge
  have z2 : tSk T n (tS T n q) ≤ n := lR_le z0.2.1
  have y0 := tS_le (T := T) (n := n) (q := tSk T n (tS T n q)) z2
  unfold RSt iM_statement
  rw [wp_bd2, w_lookM hN hn hx, wp_some, hxq, hmn, Int.zero_add, ei, if_neg (show ¬ (i : Int) = 24 by omega), wp_gd, wp_gd]
  refine ⟨jr_iff.mpr (by omega), jb_iff.mpr (by omega), ?_⟩
  rw [wp_bd3]
  refine w_takes hN hn hq (wdk hW (a := 0) (by decide) rfl) (fun _ => ?_) (fun t => absurd hj (by rw [hqq] at t; exact t))
  rw [hqq]
  show wp (if (1 : Int) = 0 then _ else _) _
  rw [if_neg (by decide)]
  rw [wp_bd10]
  refine h N W (tS T n q) bp 0 s 0 v wt L [] _ hN hW z0.2.1 rfl hv rfl trivial (show L.length + 0 ≤ _ by omega) (Nat.zero_le _) (fun x V hx => by cases hx) (fun hk0 a b2 s2 e2 o2 w2 v2 k2 g1 => ?_)
  show wp (bd3 (iM_takes N 8 (W 10) a kd n e2 T) _) Q
  rw [wp_bd3]
  have dn : ∃ aa, iM_takes N 8 (W 10) a kd n e2 T = some (0, aa, e2) := by
    unfold iM_takes iM_isHere
    rw [if_neg hk0]
    exact ⟨_, rfl⟩
  obtain ⟨aa, dn⟩ := dn
  rw [dn, wp_some]
  exact hQ hk0 _ _ _ _ _ _ _ _ _ _ _ _ g1.t (kpt_1 _ _ _) (kpt_2 _ _ _ _) (kpt_1 _ _ _) (kpt_1 _ _ _)
theorem rd_allow [Inhabited Frm] {n : Nat} {T : Nat → Int} {q : Nat} {e : Int} (hn : n ≤ 600) (hTT : ∀ k, 0 ≤ T k ∧ T k ≤ 255) (n0 : ¬ tW T n 0 q e) (hj : tW T n 11 q e) {q2 : Nat} {e2 : Int} {l : List Int} (h : RSok T n (tSk T n (tS T n q)) (tS T n q : Nat) 0 q2 e2 l) (hp : plc T n (tSk T n (tS T n q)) q2 e2 l)  : RDok T n q e q2 e2 2 0 0 0 l := by
  intro N W x i bp bs s o w v fi ib mn se so sE sF tE wt L Q hN hW hx hxq hmn hi hv hL hQ
  have ei : (i : Int).toNat = i := rfl
  have hq : q ≤ n := by rw [← hxq]; exact lR_le hx
  have hqq : tSk T n q = q := by rw [← hxq]; exact lR_id
  have z0 := tS_le (T := T) (n := n) (q := q) hq
  have z1 : tS T n q ≤ tSk T n (tS T n q) := lR_ge
  have z2 : tSk T n (tS T n q) ≤ n := lR_le z0.2.1
  have y0 := tS_le (T := T) (n := n) (q := tSk T n (tS T n q)) z2
  unfold RSt iM_statement
  rw [wp_bd2, w_lookM hN hn hx, wp_some, hxq, hmn, Int.zero_add, ei, if_neg (show ¬ (i : Int) = 24 by omega), wp_gd, wp_gd]
  refine ⟨jr_iff.mpr (by omega), jb_iff.mpr (by omega), ?_⟩
  rw [wp_bd3]
  refine w_takes hN hn hq (wdk hW (a := 0) (by decide) rfl) (fun t => absurd (by rw [hqq] at t; exact t) n0) (fun _ => ?_)
  rw [hqq]
  show wp (if (0 : Int) = 0 then _ else _) _
  rw [if_pos rfl]
  rw [wp_bd3]
  refine w_takes hN hn hq (wdk hW (a := 11) (by decide) rfl) (fun _ => ?_) (fun t => absurd hj (by rw [hqq] at t; exact t))
  rw [hqq]
  show wp (if (1 : Int) = 0 then _ else _) _
  rw [if_neg (by decide)]
  rw [wp_bd10]
  refine h N W (tS T n q) bp 0 s 0 v wt L [] _ hN hW z0.2.1 rfl hv rfl trivial (show L.length + 0 ≤ _ by omega) (Nat.zero_le _) (fun x V hx => by cases hx) (fun bp2 s2 v2 k2 g1 g2 => ?_)
  exact hQ q2 bp2 0 s2 v2 _ _ _ _ k2 hp.1 hp.2.1 g1 (updI_1 _ _ _) (updI_1 _ _ _) (updI_1 _ _ _) (updI_1 _ _ _)
theorem rd_allowB [Inhabited Frm] {n : Nat} {T : Nat → Int} {q : Nat} {e : Int} (hn : n ≤ 600) (hTT : ∀ k, 0 ≤ T k ∧ T k ≤ 255) (n0 : ¬ tW T n 0 q e) (hj : tW T n 11 q e) {kd p : Int} (h : RSbad T n (tSk T n (tS T n q)) (tS T n q : Nat) 0 kd p) : RDbad T n q e kd p := by
  intro N W x i bp bs s o w v fi ib mn se so sE sF tE wt L Q hN hW hx hxq hmn hi hv hL hQ
  have ei : (i : Int).toNat = i := rfl
  have hq : q ≤ n := by rw [← hxq]; exact lR_le hx
  have hqq : tSk T n q = q := by rw [← hxq]; exact lR_id
  have z0 := tS_le (T := T) (n := n) (q := q) hq
  have z1 : tS T n q ≤ tSk T n (tS T n q) := lR_ge
  have z2 : tSk T n (tS T n q) ≤ n := lR_le z0.2.1
  have y0 := tS_le (T := T) (n := n) (q := tSk T n (tS T n q)) z2
  unfold RSt iM_statement
  rw [wp_bd2, w_lookM hN hn hx, wp_some, hxq, hmn, Int.zero_add, ei, if_neg (show ¬ (i : Int) = 24 by omega), wp_gd, wp_gd]
  refine ⟨jr_iff.mpr (by omega), jb_iff.mpr (by omega), ?_⟩
  rw [wp_bd3]
  refine w_takes hN hn hq (wdk hW (a := 0) (by decide) rfl) (fun t => absurd (by rw [hqq] at t; exact t) n0) (fun _ => ?_)
  rw [hqq]
  show wp (if (0 : Int) = 0 then _ else _) _
  rw [if_pos rfl]
  rw [wp_bd3]
  refine w_takes hN hn hq (wdk hW (a := 11) (by decide) rfl) (fun _ => ?_) (fun t => absurd hj (by rw [hqq] at t; exact t))
  rw [hqq]
  show wp (if (1 : Int) = 0 then _ else _) _
  rw [if_neg (by decide)]
  rw [wp_bd10]
  refine h N W (tS T n q) bp 0 s 0 v wt L [] _ hN hW z0.2.1 rfl hv rfl trivial (show L.length + 0 ≤ _ by omega) (Nat.zero_le _) (fun x V hx => by cases hx) (fun hk0 a b2 s2 e2 o2 w2 v2 k2 g1 => ?_)
  exact hQ hk0 _ _ _ _ _ _ _ _ _ _ _ _ g1.t (kpt_1 _ _ _) (kpt_1 _ _ _) (kpt_1 _ _ _) (kpt_1 _ _ _)
theorem rd_pard1 [Inhabited Frm] {n : Nat} {T : Nat → Int} {q : Nat} {e : Int} (hn : n ≤ 600) (hTT : ∀ k, 0 ≤ T k ∧ T k ≤ 255) (n0 : ¬ tW T n 0 q e) (n11 : ¬ tW T n 11 q e) (hj : tW T n 12 q e) {kd p : Int} (h : tN T n (tSk T n (tS T n q)) (tS T n q : Nat) 1 999 = some (kd, p)) : RDbad T n q e kd p := by
  intro N W x i bp bs s o w v fi ib mn se so sE sF tE wt L Q hN hW hx hxq hmn hi hv hL hQ
  have ei : (i : Int).toNat = i := rfl
  have hq : q ≤ n := by rw [← hxq]; exact lR_le hx
  have hqq : tSk T n q = q := by rw [← hxq]; exact lR_id
  have z0 := tS_le (T := T) (n := n) (q := q) hq
  have z1 : tS T n q ≤ tSk T n (tS T n q) := lR_ge
  have z2 : tSk T n (tS T n q) ≤ n := lR_le z0.2.1
  have y0 := tS_le (T := T) (n := n) (q := tSk T n (tS T n q)) z2
  unfold RSt iM_statement
  rw [wp_bd2, w_lookM hN hn hx, wp_some, hxq, hmn, Int.zero_add, ei, if_neg (show ¬ (i : Int) = 24 by omega), wp_gd, wp_gd]
  refine ⟨jr_iff.mpr (by omega), jb_iff.mpr (by omega), ?_⟩
  rw [wp_bd3]
  refine w_takes hN hn hq (wdk hW (a := 0) (by decide) rfl) (fun t => absurd (by rw [hqq] at t; exact t) n0) (fun _ => ?_)
  rw [hqq]
  show wp (if (0 : Int) = 0 then _ else _) _
  rw [if_pos rfl]
  rw [wp_bd3]
  refine w_takes hN hn hq (wdk hW (a := 11) (by decide) rfl) (fun t => absurd (by rw [hqq] at t; exact t) n11) (fun _ => ?_)
  rw [hqq]
  show wp (if (0 : Int) = 0 then _ else _) _
  rw [if_pos rfl]
  rw [wp_bd3]
  refine w_takes hN hn hq (wdk hW (a := 12) (by decide) rfl) (fun _ => ?_) (fun t => absurd hj (by rw [hqq] at t; exact t))
  rw [hqq]
  show wp (if (1 : Int) = 0 then _ else _) _
  rw [if_neg (by decide)]
  rw [wp_bd5]
  refine w_number hN hTT hn z0.2.1 (fun t => by rw [h] at t; cases t) (fun kd2 p2 t vv yy zz g1 g2 => ?_)
  rw [h] at t
  cases t
  have hk := tN_no h
  have hk0 : kd ≠ 0 := by omega
  show wp (bd4 (iM_asks N 2 (W 13) yy kd p n zz T) _) Q
  rw [wp_bd4]
  unfold iM_asks
  rw [if_neg hk0, wp_some]
  show wp (bd5 (iM_number N _ 999 yy kd p n zz T) _) Q
  rw [wp_bd5]
  unfold iM_number
  rw [if_neg hk0, wp_some]
  exact hQ hk0 _ _ _ _ _ _ _ _ _ _ _ _ (cod_t hv (by omega)) (kpt_2 _ _ _ _) (kpt_1 _ _ _) (kpt_2 _ _ _ _) (kpt_1 _ _ _)
theorem rd_pard2 [Inhabited Frm] {n : Nat} {T : Nat → Int} {q : Nat} {e : Int} (hn : n ≤ 600) (hTT : ∀ k, 0 ≤ T k ∧ T k ≤ 255) (n0 : ¬ tW T n 0 q e) (n11 : ¬ tW T n 11 q e) (hj : tW T n 12 q e) (h1 : tN T n (tSk T n (tS T n q)) (tS T n q : Nat) 1 999 = none) (h2 : ¬ tW T n 13 (tSk T n (tS T n (tSk T n (tS T n q)))) (tS T n (tSk T n (tS T n q)) : Nat)) : RDbad T n q e 1 (tSk T n (tS T n (tSk T n (tS T n q)))) := by
  intro N W x i bp bs s o w v fi ib mn se so sE sF tE wt L Q hN hW hx hxq hmn hi hv hL hQ
  have ei : (i : Int).toNat = i := rfl
  have hq : q ≤ n := by rw [← hxq]; exact lR_le hx
  have hqq : tSk T n q = q := by rw [← hxq]; exact lR_id
  have z0 := tS_le (T := T) (n := n) (q := q) hq
  have z1 : tS T n q ≤ tSk T n (tS T n q) := lR_ge
  have z2 : tSk T n (tS T n q) ≤ n := lR_le z0.2.1
  have y0 := tS_le (T := T) (n := n) (q := tSk T n (tS T n q)) z2
  unfold RSt iM_statement
  rw [wp_bd2, w_lookM hN hn hx, wp_some, hxq, hmn, Int.zero_add, ei, if_neg (show ¬ (i : Int) = 24 by omega), wp_gd, wp_gd]
  refine ⟨jr_iff.mpr (by omega), jb_iff.mpr (by omega), ?_⟩
  rw [wp_bd3]
  refine w_takes hN hn hq (wdk hW (a := 0) (by decide) rfl) (fun t => absurd (by rw [hqq] at t; exact t) n0) (fun _ => ?_)
  rw [hqq]
  show wp (if (0 : Int) = 0 then _ else _) _
  rw [if_pos rfl]
  rw [wp_bd3]
  refine w_takes hN hn hq (wdk hW (a := 11) (by decide) rfl) (fun t => absurd (by rw [hqq] at t; exact t) n11) (fun _ => ?_)
  rw [hqq]
  show wp (if (0 : Int) = 0 then _ else _) _
  rw [if_pos rfl]
  rw [wp_bd3]
  refine w_takes hN hn hq (wdk hW (a := 12) (by decide) rfl) (fun _ => ?_) (fun t => absurd hj (by rw [hqq] at t; exact t))
  rw [hqq]
  show wp (if (1 : Int) = 0 then _ else _) _
  rw [if_neg (by decide)]
  rw [wp_bd5]
  refine w_number hN hTT hn z0.2.1 (fun _ => ?_) (fun kd2 p2 t vv yy zz g1 g2 => by rw [h1] at t; cases t)
  have hd := dv_b h1
  have x1 : tS T n (tSk T n (tS T n q)) ≤ (tSk T n (tS T n (tSk T n (tS T n q)))) := lR_ge
  have x2 : (tSk T n (tS T n (tSk T n (tS T n q)))) ≤ n := lR_le y0.2.1
  have x0 := tS_le (T := T) (n := n) (q := (tSk T n (tS T n (tSk T n (tS T n q))))) x2
  have xx : tSk T n (tSk T n (tS T n (tSk T n (tS T n q)))) = (tSk T n (tS T n (tSk T n (tS T n q)))) := lR_id
  generalize hV : dV T (tSk T n (tS T n q)) (tS T n (tSk T n (tS T n q)) - (tSk T n (tS T n q))) = V at *
  show wp (bd4 (iM_asks N 2 (W 13) (tS T n (tSk T n (tS T n q)) : Nat) 0 bp n (tS T n (tSk T n (tS T n q)) : Nat) T) _) Q
  rw [wp_bd4]
  unfold iM_asks
  rw [if_pos rfl, wp_bd3]
  refine w_takes hN hn y0.2.1 (wdk hW (a := 13) (by decide) rfl) (fun t => absurd t h2) (fun t => ?_)
  show wp (if (0 : Int) = 0 then _ else _) _
  rw [if_pos rfl, wp_bd2]
  unfold iM_fail
  rw [if_pos rfl, wp_some, wp_some]
  show wp (bd5 (iM_number N _ 999 (tSk T n (tS T n (tSk T n (tS T n q)))) 1 (tSk T n (tS T n (tSk T n (tS T n q)))) n (tS T n (tSk T n (tS T n q)) : Nat) T) _) Q
  rw [wp_bd5]
  unfold iM_number
  rw [if_neg (by decide), wp_some]
  exact hQ (by decide) _ _ _ _ _ _ _ _ _ _ _ _ (cod_t hv (by omega)) (kpt_2 _ _ _ _) (kpt_1 _ _ _) (kpt_2 _ _ _ _) (kpt_1 _ _ _)
theorem rd_pard3 [Inhabited Frm] {n : Nat} {T : Nat → Int} {q : Nat} {e : Int} (hn : n ≤ 600) (hTT : ∀ k, 0 ≤ T k ∧ T k ≤ 255) (n0 : ¬ tW T n 0 q e) (n11 : ¬ tW T n 11 q e) (hj : tW T n 12 q e) {kd p : Int} (h1 : tN T n (tSk T n (tS T n q)) (tS T n q : Nat) 1 999 = none) (h2 : tW T n 13 (tSk T n (tS T n (tSk T n (tS T n q)))) (tS T n (tSk T n (tS T n q)) : Nat)) (h3 : tN T n (tSk T n (tS T n (tSk T n (tS T n (tSk T n (tS T n q)))))) (tS T n (tSk T n (tS T n (tSk T n (tS T n q)))) : Nat) (dV T (tSk T n (tS T n q)) (tS T n (tSk T n (tS T n q)) - (tSk T n (tS T n q)))) 999 = some (kd, p)) : RDbad T n q e kd p := by
  intro N W x i bp bs s o w v fi ib mn se so sE sF tE wt L Q hN hW hx hxq hmn hi hv hL hQ
  have ei : (i : Int).toNat = i := rfl
  have hq : q ≤ n := by rw [← hxq]; exact lR_le hx
  have hqq : tSk T n q = q := by rw [← hxq]; exact lR_id
  have z0 := tS_le (T := T) (n := n) (q := q) hq
  have z1 : tS T n q ≤ tSk T n (tS T n q) := lR_ge
  have z2 : tSk T n (tS T n q) ≤ n := lR_le z0.2.1
  have y0 := tS_le (T := T) (n := n) (q := tSk T n (tS T n q)) z2
  unfold RSt iM_statement
  rw [wp_bd2, w_lookM hN hn hx, wp_some, hxq, hmn, Int.zero_add, ei, if_neg (show ¬ (i : Int) = 24 by omega), wp_gd, wp_gd]
  refine ⟨jr_iff.mpr (by omega), jb_iff.mpr (by omega), ?_⟩
  rw [wp_bd3]
  refine w_takes hN hn hq (wdk hW (a := 0) (by decide) rfl) (fun t => absurd (by rw [hqq] at t; exact t) n0) (fun _ => ?_)
  rw [hqq]
  show wp (if (0 : Int) = 0 then _ else _) _
  rw [if_pos rfl]
  rw [wp_bd3]
  refine w_takes hN hn hq (wdk hW (a := 11) (by decide) rfl) (fun t => absurd (by rw [hqq] at t; exact t) n11) (fun _ => ?_)
  rw [hqq]
  show wp (if (0 : Int) = 0 then _ else _) _
  rw [if_pos rfl]
  rw [wp_bd3]
  refine w_takes hN hn hq (wdk hW (a := 12) (by decide) rfl) (fun _ => ?_) (fun t => absurd hj (by rw [hqq] at t; exact t))
  rw [hqq]
  show wp (if (1 : Int) = 0 then _ else _) _
  rw [if_neg (by decide)]
  rw [wp_bd5]
  refine w_number hN hTT hn z0.2.1 (fun _ => ?_) (fun kd2 p2 t vv yy zz g1 g2 => by rw [h1] at t; cases t)
  have hd := dv_b h1
  have x1 : tS T n (tSk T n (tS T n q)) ≤ (tSk T n (tS T n (tSk T n (tS T n q)))) := lR_ge
  have x2 : (tSk T n (tS T n (tSk T n (tS T n q)))) ≤ n := lR_le y0.2.1
  have x0 := tS_le (T := T) (n := n) (q := (tSk T n (tS T n (tSk T n (tS T n q))))) x2
  have xx : tSk T n (tSk T n (tS T n (tSk T n (tS T n q)))) = (tSk T n (tS T n (tSk T n (tS T n q)))) := lR_id
  generalize hV : dV T (tSk T n (tS T n q)) (tS T n (tSk T n (tS T n q)) - (tSk T n (tS T n q))) = V at *
  show wp (bd4 (iM_asks N 2 (W 13) (tS T n (tSk T n (tS T n q)) : Nat) 0 bp n (tS T n (tSk T n (tS T n q)) : Nat) T) _) Q
  rw [wp_bd4]
  unfold iM_asks
  rw [if_pos rfl, wp_bd3]
  refine w_takes hN hn y0.2.1 (wdk hW (a := 13) (by decide) rfl) (fun t => ?_) (fun t => absurd h2 t)
  show wp (if (1 : Int) = 0 then _ else _) _
  rw [if_neg (by decide), wp_some]
  show wp (bd5 (iM_number N ((va_up (va_up fi i 0) i V) i) 999 (tS T n (tSk T n (tS T n (tSk T n (tS T n q)))) : Nat) 0 bp n (tS T n (tSk T n (tS T n (tSk T n (tS T n q)))) : Nat) T) _) Q
  rw [wp_bd5, va_up_self]
  refine w_number hN hTT hn x0.2.1 (fun t => by rw [h3] at t; cases t) (fun kd2 p2 t vv yy zz g1 g2 => ?_)
  rw [h3] at t
  cases t
  have hk := tN_no h3
  have hk0 : kd ≠ 0 := by omega
  exact hQ hk0 _ _ _ _ _ _ _ _ _ _ _ _ (cod_t hv (by omega)) (kpt_2 _ _ _ _) (kpt_1 _ _ _) (kpt_2 _ _ _ _) (kpt_1 _ _ _)
theorem rd_pard4 [Inhabited Frm] {n : Nat} {T : Nat → Int} {q : Nat} {e : Int} (hn : n ≤ 600) (hTT : ∀ k, 0 ≤ T k ∧ T k ≤ 255) (n0 : ¬ tW T n 0 q e) (n11 : ¬ tW T n 11 q e) (hj : tW T n 12 q e) (h1 : tN T n (tSk T n (tS T n q)) (tS T n q : Nat) 1 999 = none) (h2 : tW T n 13 (tSk T n (tS T n (tSk T n (tS T n q)))) (tS T n (tSk T n (tS T n q)) : Nat)) (h3 : tN T n (tSk T n (tS T n (tSk T n (tS T n (tSk T n (tS T n q)))))) (tS T n (tSk T n (tS T n (tSk T n (tS T n q)))) : Nat) (dV T (tSk T n (tS T n q)) (tS T n (tSk T n (tS T n q)) - (tSk T n (tS T n q)))) 999 = none) : RDok T n q e (tSk T n (tS T n (tSk T n (tS T n (tSk T n (tS T n (tSk T n (tS T n q)))))))) (tS T n (tSk T n (tS T n (tSk T n (tS T n (tSk T n (tS T n q)))))) : Nat) 3 0 (dV T (tSk T n (tS T n q)) (tS T n (tSk T n (tS T n q)) - (tSk T n (tS T n q)))) (dV T (tSk T n (tS T n (tSk T n (tS T n (tSk T n (tS T n q)))))) (tS T n (tSk T n (tS T n (tSk T n (tS T n (tSk T n (tS T n q)))))) - (tSk T n (tS T n (tSk T n (tS T n (tSk T n (tS T n q)))))))) [] := by
  intro N W x i bp bs s o w v fi ib mn se so sE sF tE wt L Q hN hW hx hxq hmn hi hv hL hQ
  have ei : (i : Int).toNat = i := rfl
  have hq : q ≤ n := by rw [← hxq]; exact lR_le hx
  have hqq : tSk T n q = q := by rw [← hxq]; exact lR_id
  have z0 := tS_le (T := T) (n := n) (q := q) hq
  have z1 : tS T n q ≤ tSk T n (tS T n q) := lR_ge
  have z2 : tSk T n (tS T n q) ≤ n := lR_le z0.2.1
  have y0 := tS_le (T := T) (n := n) (q := tSk T n (tS T n q)) z2
  unfold RSt iM_statement
  rw [wp_bd2, w_lookM hN hn hx, wp_some, hxq, hmn, Int.zero_add, ei, if_neg (show ¬ (i : Int) = 24 by omega), wp_gd, wp_gd]
  refine ⟨jr_iff.mpr (by omega), jb_iff.mpr (by omega), ?_⟩
  rw [wp_bd3]
  refine w_takes hN hn hq (wdk hW (a := 0) (by decide) rfl) (fun t => absurd (by rw [hqq] at t; exact t) n0) (fun _ => ?_)
  rw [hqq]
  show wp (if (0 : Int) = 0 then _ else _) _
  rw [if_pos rfl]
  rw [wp_bd3]
  refine w_takes hN hn hq (wdk hW (a := 11) (by decide) rfl) (fun t => absurd (by rw [hqq] at t; exact t) n11) (fun _ => ?_)
  rw [hqq]
  show wp (if (0 : Int) = 0 then _ else _) _
  rw [if_pos rfl]
  rw [wp_bd3]
  refine w_takes hN hn hq (wdk hW (a := 12) (by decide) rfl) (fun _ => ?_) (fun t => absurd hj (by rw [hqq] at t; exact t))
  rw [hqq]
  show wp (if (1 : Int) = 0 then _ else _) _
  rw [if_neg (by decide)]
  rw [wp_bd5]
  refine w_number hN hTT hn z0.2.1 (fun _ => ?_) (fun kd2 p2 t vv yy zz g1 g2 => by rw [h1] at t; cases t)
  have hd := dv_b h1
  have x1 : tS T n (tSk T n (tS T n q)) ≤ (tSk T n (tS T n (tSk T n (tS T n q)))) := lR_ge
  have x2 : (tSk T n (tS T n (tSk T n (tS T n q)))) ≤ n := lR_le y0.2.1
  have x0 := tS_le (T := T) (n := n) (q := (tSk T n (tS T n (tSk T n (tS T n q))))) x2
  have xx : tSk T n (tSk T n (tS T n (tSk T n (tS T n q)))) = (tSk T n (tS T n (tSk T n (tS T n q)))) := lR_id
  generalize hV : dV T (tSk T n (tS T n q)) (tS T n (tSk T n (tS T n q)) - (tSk T n (tS T n q))) = V at *
  show wp (bd4 (iM_asks N 2 (W 13) (tS T n (tSk T n (tS T n q)) : Nat) 0 bp n (tS T n (tSk T n (tS T n q)) : Nat) T) _) Q
  rw [wp_bd4]
  unfold iM_asks
  rw [if_pos rfl, wp_bd3]
  refine w_takes hN hn y0.2.1 (wdk hW (a := 13) (by decide) rfl) (fun t => ?_) (fun t => absurd h2 t)
  show wp (if (1 : Int) = 0 then _ else _) _
  rw [if_neg (by decide), wp_some]
  show wp (bd5 (iM_number N ((va_up (va_up fi i 0) i V) i) 999 (tS T n (tSk T n (tS T n (tSk T n (tS T n q)))) : Nat) 0 bp n (tS T n (tSk T n (tS T n (tSk T n (tS T n q)))) : Nat) T) _) Q
  rw [wp_bd5, va_up_self]
  refine w_number hN hTT hn x0.2.1 (fun _ => ?_) (fun kd2 p2 t vv yy zz g1 g2 => by rw [h3] at t; cases t)
  have x3 : (tSk T n (tS T n (tSk T n (tS T n (tSk T n (tS T n q)))))) ≤ n := lR_le x0.2.1
  have x4 := tS_le (T := T) (n := n) (q := (tSk T n (tS T n (tSk T n (tS T n (tSk T n (tS T n q))))))) x3
  exact hQ (tS T n (tSk T n (tS T n (tSk T n (tS T n (tSk T n (tS T n q))))))) bp 0 s v _ _ _ _ wt x4.2.1 rfl (by rw [List.append_nil]; exact hv) (updI_2 _ _ _ _) (updI_1 _ _ _) (updI_2 _ _ _ _) (updI_1 _ _ _)
theorem rd_spl1 [Inhabited Frm] {n : Nat} {T : Nat → Int} {q : Nat} {e : Int} (hn : n ≤ 600) (hTT : ∀ k, 0 ≤ T k ∧ T k ≤ 255) (n0 : ¬ tW T n 0 q e) (n11 : ¬ tW T n 11 q e) (n12 : ¬ tW T n 12 q e) (hj : tW T n 14 q e) {kd p : Int} (h : tN T n (tSk T n (tS T n q)) (tS T n q : Nat) 2 20 = some (kd, p)) : RDbad T n q e kd p := by
  intro N W x i bp bs s o w v fi ib mn se so sE sF tE wt L Q hN hW hx hxq hmn hi hv hL hQ
  have ei : (i : Int).toNat = i := rfl
  have hq : q ≤ n := by rw [← hxq]; exact lR_le hx
  have hqq : tSk T n q = q := by rw [← hxq]; exact lR_id
  have z0 := tS_le (T := T) (n := n) (q := q) hq
  have z1 : tS T n q ≤ tSk T n (tS T n q) := lR_ge
  have z2 : tSk T n (tS T n q) ≤ n := lR_le z0.2.1
  have y0 := tS_le (T := T) (n := n) (q := tSk T n (tS T n q)) z2
  unfold RSt iM_statement
  rw [wp_bd2, w_lookM hN hn hx, wp_some, hxq, hmn, Int.zero_add, ei, if_neg (show ¬ (i : Int) = 24 by omega), wp_gd, wp_gd]
  refine ⟨jr_iff.mpr (by omega), jb_iff.mpr (by omega), ?_⟩
  rw [wp_bd3]
  refine w_takes hN hn hq (wdk hW (a := 0) (by decide) rfl) (fun t => absurd (by rw [hqq] at t; exact t) n0) (fun _ => ?_)
  rw [hqq]
  show wp (if (0 : Int) = 0 then _ else _) _
  rw [if_pos rfl]
  rw [wp_bd3]
  refine w_takes hN hn hq (wdk hW (a := 11) (by decide) rfl) (fun t => absurd (by rw [hqq] at t; exact t) n11) (fun _ => ?_)
  rw [hqq]
  show wp (if (0 : Int) = 0 then _ else _) _
  rw [if_pos rfl]
  rw [wp_bd3]
  refine w_takes hN hn hq (wdk hW (a := 12) (by decide) rfl) (fun t => absurd (by rw [hqq] at t; exact t) n12) (fun _ => ?_)
  rw [hqq]
  show wp (if (0 : Int) = 0 then _ else _) _
  rw [if_pos rfl]
  rw [wp_bd3]
  refine w_takes hN hn hq (wdk hW (a := 14) (by decide) rfl) (fun _ => ?_) (fun t => absurd hj (by rw [hqq] at t; exact t))
  rw [hqq]
  show wp (if (1 : Int) = 0 then _ else _) _
  rw [if_neg (by decide)]
  rw [wp_bd5]
  refine w_number hN hTT hn z0.2.1 (fun t => by rw [h] at t; cases t) (fun kd2 p2 t vv yy zz g1 g2 => ?_)
  rw [h] at t
  cases t
  have hk := tN_no h
  have hk0 : kd ≠ 0 := by omega
  exact hQ hk0 _ _ _ _ _ _ _ _ _ _ _ _ (cod_t hv (by omega)) (kpt_2 _ _ _ _) (kpt_1 _ _ _) (kpt_1 _ _ _) (kpt_1 _ _ _)
theorem rd_spl2 [Inhabited Frm] {n : Nat} {T : Nat → Int} {q : Nat} {e : Int} (hn : n ≤ 600) (hTT : ∀ k, 0 ≤ T k ∧ T k ≤ 255) (n0 : ¬ tW T n 0 q e) (n11 : ¬ tW T n 11 q e) (n12 : ¬ tW T n 12 q e) (hj : tW T n 14 q e) (h : tN T n (tSk T n (tS T n q)) (tS T n q : Nat) 2 20 = none) : RDok T n q e (tSk T n (tS T n (tSk T n (tS T n q)))) (tS T n (tSk T n (tS T n q)) : Nat) 4 0 (dV T (tSk T n (tS T n q)) (tS T n (tSk T n (tS T n q)) - (tSk T n (tS T n q)))) 0 [] := by
  intro N W x i bp bs s o w v fi ib mn se so sE sF tE wt L Q hN hW hx hxq hmn hi hv hL hQ
  have ei : (i : Int).toNat = i := rfl
  have hq : q ≤ n := by rw [← hxq]; exact lR_le hx
  have hqq : tSk T n q = q := by rw [← hxq]; exact lR_id
  have z0 := tS_le (T := T) (n := n) (q := q) hq
  have z1 : tS T n q ≤ tSk T n (tS T n q) := lR_ge
  have z2 : tSk T n (tS T n q) ≤ n := lR_le z0.2.1
  have y0 := tS_le (T := T) (n := n) (q := tSk T n (tS T n q)) z2
  unfold RSt iM_statement
  rw [wp_bd2, w_lookM hN hn hx, wp_some, hxq, hmn, Int.zero_add, ei, if_neg (show ¬ (i : Int) = 24 by omega), wp_gd, wp_gd]
  refine ⟨jr_iff.mpr (by omega), jb_iff.mpr (by omega), ?_⟩
  rw [wp_bd3]
  refine w_takes hN hn hq (wdk hW (a := 0) (by decide) rfl) (fun t => absurd (by rw [hqq] at t; exact t) n0) (fun _ => ?_)
  rw [hqq]
  show wp (if (0 : Int) = 0 then _ else _) _
  rw [if_pos rfl]
  rw [wp_bd3]
  refine w_takes hN hn hq (wdk hW (a := 11) (by decide) rfl) (fun t => absurd (by rw [hqq] at t; exact t) n11) (fun _ => ?_)
  rw [hqq]
  show wp (if (0 : Int) = 0 then _ else _) _
  rw [if_pos rfl]
  rw [wp_bd3]
  refine w_takes hN hn hq (wdk hW (a := 12) (by decide) rfl) (fun t => absurd (by rw [hqq] at t; exact t) n12) (fun _ => ?_)
  rw [hqq]
  show wp (if (0 : Int) = 0 then _ else _) _
  rw [if_pos rfl]
  rw [wp_bd3]
  refine w_takes hN hn hq (wdk hW (a := 14) (by decide) rfl) (fun _ => ?_) (fun t => absurd hj (by rw [hqq] at t; exact t))
  rw [hqq]
  show wp (if (1 : Int) = 0 then _ else _) _
  rw [if_neg (by decide)]
  rw [wp_bd5]
  refine w_number hN hTT hn z0.2.1 (fun _ => ?_) (fun kd2 p2 t vv yy zz g1 g2 => by rw [h] at t; cases t)
  exact hQ (tS T n (tSk T n (tS T n q))) bp 0 s v _ _ _ _ wt y0.2.1 rfl (by rw [List.append_nil]; exact hv) (updI_2 _ _ _ _) (updI_1 _ _ _) (updI_1 _ _ _) (updI_1 _ _ _)
