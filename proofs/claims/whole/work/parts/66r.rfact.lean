set_option maxHeartbeats 4000000
set_option maxRecDepth 100000
theorem wdk {W : Nat → Nat → Int} (h : ∀ a, a < 21 → ∀ i, i < kS_len a → W a i = jch a i) {a len : Nat} (ha : a < 21) (hl : len = kS_len a) : wd a len (W a) := ⟨hl, kS_b a ha, h a ha⟩
theorem w_code0 [Inhabited Frm] {c s : Int} {v : Nat → Int} {Q : R_iM_code → Prop} (h : frS v s) (k : ∀ v2, frT v2 (s + 1) → Q (s + 1, v2)) : wp (iM_code c s v) Q := by
  unfold iM_code
  obtain ⟨h1, h2, h3⟩ := h
  rw [Int.zero_add, wp_gd, wp_gd, wp_gd, wp_some]
  refine ⟨jr_iff.mpr (by omega), jb_iff.mpr (by omega), jr_iff.mpr (by omega), k _ ⟨by omega, by omega, fun i hi => ?_⟩⟩
  rw [va_up_ne _ _ (show i ≠ s.toNat by omega)]
  exact h3 i hi
theorem f_all [Inhabited Frm] {T : Nat → Int} {n q : Nat} {e o : Int} (hn : n ≤ 600) (hqq : tSk T n q = q) (hq : tW T n 17 q e) : FOK T n q e o (tSk T n (tS T n q)) (tS T n q : Nat) [17] := by
  intro N W bp bs s w v k L B Q hN hW hv hw hk hL hB hnt hQ
  have hqn : q < n := hq.1
  have z0 := tS_le (T := T) (n := n) (q := q) (Nat.le_of_lt hq.1)
  unfold iM_fact
  rw [wp_bd3]
  refine w_takes hN hn (x := q) (by omega) (wdk hW (a := 17) (by decide) rfl) (fun t => ?_) (fun t => absurd hq (by rw [hqq] at t; exact t))
  rw [hqq]
  show wp (if (1 : Int) = 0 then _ else _) _
  rw [if_neg (by decide), wp_bd2]
  refine w_code hv (by omega) (fun v2 h2 => ?_)
  rw [wp_some, hw]
  exact hQ (tS T n q) bp (s + 1) v2 k z0.2.1 rfl h2 hk
theorem f_pre {T : Nat → Int} {n q N : Nat} {e o bp bs s w : Int} {v k : Nat → Int} {W : Nat → Nat → Int} {Q : R_iM_fact → Prop} (hn : n ≤ 600) (hq : q ≤ n) (hqq : tSk T n q = q) (hN : 5000 ≤ N) (hW : ∀ a, a < 21 → ∀ i, i < kS_len a → W a i = jch a i) (n17 : ¬ tW T n 17 q e) (h1 : tW T n 18 q e → wp (bd5 (iM_number N 0 7 (tS T n q : Nat) 0 bp n (tS T n q : Nat) T) fun rc6 a6 b6 p6 e6 => gd (jr (100 + rc6)) <| bd2 (iM_code (100 + rc6) s v) fun s7 v7 => some (a6, b6, p6, bs, s7, e6, o, w, v7, k)) Q) (h2 : ¬ tW T n 18 q e → wp (iM_sums N q 0 bp bs s n e o w v (W 8) (W 5) (W 4) (W 9) (W 3) (W 1) (W 2) T (W 6) k (W 7)) (fun r => wp (if r.2.1 = 0 then bd2 (iM_look N r.1 n T) fun rc4 a4 => if rc4 = 60 then iM_fact_b89 N n (W 17) (W 8) (W 5) (W 4) (W 9) (W 3) (W 1) (W 2) (W 18) T (W 6) (W 7) rc4 a4 r.2.1 r.2.2.1 r.2.2.2.1 r.2.2.2.2.1 r.2.2.2.2.2.1 r.2.2.2.2.2.2.1 r.2.2.2.2.2.2.2.1 r.2.2.2.2.2.2.2.2.1 r.2.2.2.2.2.2.2.2.2 else if rc4 = 62 then iM_fact_b89 N n (W 17) (W 8) (W 5) (W 4) (W 9) (W 3) (W 1) (W 2) (W 18) T (W 6) (W 7) rc4 a4 r.2.1 r.2.2.1 r.2.2.2.1 r.2.2.2.2.1 r.2.2.2.2.2.1 r.2.2.2.2.2.2.1 r.2.2.2.2.2.2.2.1 r.2.2.2.2.2.2.2.2.1 r.2.2.2.2.2.2.2.2.2 else if rc4 = 61 then iM_fact_b89 N n (W 17) (W 8) (W 5) (W 4) (W 9) (W 3) (W 1) (W 2) (W 18) T (W 6) (W 7) rc4 a4 r.2.1 r.2.2.1 r.2.2.2.1 r.2.2.2.2.1 r.2.2.2.2.2.1 r.2.2.2.2.2.2.1 r.2.2.2.2.2.2.2.1 r.2.2.2.2.2.2.2.2.1 r.2.2.2.2.2.2.2.2.2 else bd2 (iM_fail 1 a4 r.2.1 r.2.2.1) fun b5 p5 => some (a4, b5, p5, r.2.2.2.1, r.2.2.2.2.1, r.2.2.2.2.2.1, r.2.2.2.2.2.2.1, r.2.2.2.2.2.2.2.1, r.2.2.2.2.2.2.2.2.1, r.2.2.2.2.2.2.2.2.2) else some (r.1, r.2.1, r.2.2.1, r.2.2.2.1, r.2.2.2.2.1, r.2.2.2.2.2.1, r.2.2.2.2.2.2.1, r.2.2.2.2.2.2.2.1, r.2.2.2.2.2.2.2.2.1, r.2.2.2.2.2.2.2.2.2)) Q)) : wp (iM_fact N q 0 bp bs s n e o w (W 17) v (W 8) (W 5) (W 4) (W 9) (W 3) (W 1) (W 2) (W 18) T (W 6) k (W 7)) Q := by
  unfold iM_fact
  rw [wp_bd3]
  refine w_takes hN hn hq (wdk hW (a := 17) (by decide) rfl) (fun t => absurd (by rw [hqq] at t; exact t) n17) (fun t => ?_)
  rw [hqq]
  show wp (if (0 : Int) = 0 then _ else _) _
  rw [if_pos rfl, wp_bd3]
  refine w_takes hN hn hq (wdk hW (a := 18) (by decide) rfl) (fun t => ?_) (fun t => ?_)
  · rw [hqq] at t ⊢
    show wp (if (1 : Int) = 0 then _ else _) _
    rw [if_neg (by decide)]
    exact h1 t
  · rw [hqq] at t ⊢
    show wp (if (0 : Int) = 0 then _ else _) _
    rw [if_pos rfl, wp_bd10]
    exact h2 t
theorem f_sh_ok [Inhabited Frm] {T : Nat → Int} {n q : Nat} {e o : Int} (hn : n ≤ 600) (hTT : ∀ k, 0 ≤ T k ∧ T k ≤ 255) (hqq : tSk T n q = q) (n17 : ¬ tW T n 17 q e) (hq : tW T n 18 q e) (ht : tN T n (tSk T n (tS T n q)) (tS T n q : Nat) 0 7 = none) : FOK T n q e o (tSk T n (tS T n (tSk T n (tS T n q)))) (tS T n (tSk T n (tS T n q)) : Nat) [100 + dV T (tSk T n (tS T n q)) (tS T n (tSk T n (tS T n q)) - tSk T n (tS T n q))] := by
  intro N W bp bs s w v k L B Q hN hW hv hw hk hL hB hnt hQ
  have hqn : q < n := hq.1
  have z0 := tS_le (T := T) (n := n) (q := q) (Nat.le_of_lt hq.1)
  have z2 : tSk T n (tS T n q) ≤ n := lR_le z0.2.1
  have z3 := tS_le (T := T) (n := n) (q := tSk T n (tS T n q)) z2
  refine f_pre hn (by omega) hqq hN hW n17 (fun _ => ?_) (fun g => absurd hq g)
  rw [wp_bd5]
  refine w_number hN hTT hn z0.2.1 (fun t => ?_) (fun kd p t => by rw [ht] at t; cases t)
  obtain ⟨_, _, t3, t4⟩ := tN_ok t
  show wp (gd (jr (100 + dV T (tSk T n (tS T n q)) (tS T n (tSk T n (tS T n q)) - tSk T n (tS T n q)))) _) _
  rw [wp_gd, wp_bd2]
  refine ⟨jr_iff.mpr (by omega), w_code hv (by omega) (fun v2 h2 => ?_)⟩
  rw [wp_some, hw]
  exact hQ (tS T n (tSk T n (tS T n q))) bp (s + 1) v2 k z3.2.1 rfl h2 hk
theorem f_sh_bad [Inhabited Frm] {T : Nat → Int} {n q : Nat} {e o kd p : Int} (hn : n ≤ 600) (hTT : ∀ k, 0 ≤ T k ∧ T k ≤ 255) (hqq : tSk T n q = q) (n17 : ¬ tW T n 17 q e) (hq : tW T n 18 q e) (ht : tN T n (tSk T n (tS T n q)) (tS T n q : Nat) 0 7 = some (kd, p)) : FBD T n q e o kd p := by
  intro N W bp bs s w v k L B Q hN hW hv hw hk hL hB hnt hQ
  have hqn : q < n := hq.1
  have z0 := tS_le (T := T) (n := n) (q := q) (Nat.le_of_lt hq.1)
  have hk0 := tN_no ht
  refine f_pre hn (by omega) hqq hN hW n17 (fun _ => ?_) (fun g => absurd hq g)
  rw [wp_bd5]
  refine w_number hN hTT hn z0.2.1 (fun t => by rw [ht] at t; cases t) (fun kd2 p2 t vv y z g1 g2 => ?_)
  rw [ht] at t
  cases t
  show wp (gd (jr (100 + vv)) _) _
  rw [wp_gd, wp_bd2]
  refine ⟨jr_iff.mpr (by omega), w_code0 (cod_s hv (by omega)) (fun v2 h2 => ?_)⟩
  rw [wp_some]
  exact hQ (by omega) _ _ _ _ _ _ _ _ h2
/-- the signs between two sums -/
def sgn (T : Nat → Int) (n q : Nat) (c d : Int) : Prop := (tM T n q 60 ∧ c = 11 ∧ d = -13) ∨ (tM T n q 62 ∧ c = 12 ∧ d = -14) ∨ (tM T n q 61 ∧ c = 13 ∧ d = -15)
theorem f_c1 [Inhabited Frm] {T : Nat → Int} {n q : Nat} {e o kd p : Int} (hn : n ≤ 600) (hq : q ≤ n) (hqq : tSk T n q = q) (n17 : ¬ tW T n 17 q e) (n18 : ¬ tW T n 18 q e) (h : RSbad T n q e o kd p) : FBD T n q e o kd p := by
  intro N W bp bs s w v k L B Q hN hW hv hw hk hL hB hnt hQ
  refine f_pre hn hq hqq hN hW n17 (fun g => absurd g n18) (fun _ => ?_)
  refine h N W q bp bs s w v k L B _ hN hW hq hqq hv hw hk hL hB hnt (fun hk0 a b2 s2 e2 o2 w2 v2 k2 g1 => ?_)
  show wp (if kd = 0 then _ else _) Q
  rw [if_neg hk0, wp_some]
  exact hQ hk0 _ _ _ _ _ _ _ _ g1.t
theorem f_c2 [Inhabited Frm] {T : Nat → Int} {n q q2 : Nat} {e o e2 : Int} {a : List Int} (hn : n ≤ 600) (hq : q ≤ n) (hqq : tSk T n q = q) (n17 : ¬ tW T n 17 q e) (n18 : ¬ tW T n 18 q e) (h : RSok T n q e o q2 e2 a) (hp : plc T n q q2 e2 a) (ns : ∀ c d, ¬ sgn T n q2 c d) : FBD T n q e o 1 q2 := by
  intro N W bp bs s w v k L B Q hN hW hv hw hk hL hB hnt hQ
  obtain ⟨p1, p2, p3, p4⟩ := hp
  have la : a.length ≤ (trl a).length := trl_len a
  refine f_pre hn hq hqq hN hW n17 (fun g => absurd g n18) (fun _ => ?_)
  refine h N W q bp bs s w v k L B _ hN hW hq hqq hv hw hk hL hB hnt (fun bp2 s2 v2 k2 g1 g2 => ?_)
  show wp (if (0 : Int) = 0 then _ else _) Q
  rw [if_pos rfl, wp_bd2]
  show wp (iM_look N q2 n T) _
  rw [w_lookM hN hn p1, wp_some, p2, if_neg (lk_n (fun t => ns 11 (-13) (Or.inl ⟨t, rfl, rfl⟩)) (by decide)), if_neg (lk_n (fun t => ns 12 (-14) (Or.inr (Or.inl ⟨t, rfl, rfl⟩))) (by decide)), if_neg (lk_n (fun t => ns 13 (-15) (Or.inr (Or.inr ⟨t, rfl, rfl⟩))) (by decide)), wp_bd2]
  unfold iM_fail
  show wp (if (0 : Int) = 0 then _ else _) _
  rw [if_pos rfl, wp_some, wp_some]
  exact hQ (by decide) _ _ _ _ _ _ _ _ (cod_t g1 (by rw [List.length_append]; omega))
