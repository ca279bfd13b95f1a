set_option maxHeartbeats 4000000
set_option maxRecDepth 100000
/-- behind the first sum: the sign, then the second sum -/
theorem f_89 [Inhabited Frm] {T : Nat → Int} {n q q2 : Nat} {e o e2 c d : Int} {a : List Int} (hn : n ≤ 600) (hq : q ≤ n) (hqq : tSk T n q = q) (n17 : ¬ tW T n 17 q e) (n18 : ¬ tW T n 18 q e) (h : RSok T n q e o q2 e2 a) (hp : plc T n q q2 e2 a) (hs : sgn T n q2 c d) {N : Nat} {W : Nat → Nat → Int} {bp : MOne} {bs s w : Int} {v k : Nat → Int} {L B : List Int} {Q : R_iM_fact → Prop} (hN : 5000 ≤ N) (hW : ∀ a, a < 21 → ∀ i, i < kS_len a → W a i = jch a i) (hv : cod v s L) (hw : w = B.length) (hk : stk k B) (hL : L.length + B.length ≤ q) (hB : B.length ≤ q) (hnt : nt asB B) (nx : ∀ (bp2 : MOne) s2 v2 k2, cod v2 s2 (L ++ a) → stk k2 B → wp (iM_sums N (q2 + 1 : Nat) 0 bp2 bs s2 n e2 o B.length v2 (W 8) (W 5) (W 4) (W 9) (W 3) (W 1) (W 2) T (W 6) k2 (W 7)) (fun r => wp (bd2 (iM_code c r.2.2.2.2.1 r.2.2.2.2.2.2.2.2.1) fun s7 v7 => some (r.1, r.2.1, r.2.2.1, r.2.2.2.1, s7, r.2.2.2.2.2.1, r.2.2.2.2.2.2.1, r.2.2.2.2.2.2.2.1, v7, r.2.2.2.2.2.2.2.2.2)) Q)) : wp (iM_fact N q 0 bp bs s n e o w (W 17) v (W 8) (W 5) (W 4) (W 9) (W 3) (W 1) (W 2) (W 18) T (W 6) k (W 7)) Q := by
  obtain ⟨p1, p2, p3, p4⟩ := hp
  refine f_pre hn hq hqq hN hW n17 (fun g => absurd g n18) (fun _ => ?_)
  refine h N W q bp bs s w v k L B _ hN hW hq hqq hv hw hk hL hB hnt (fun bp2 s2 v2 k2 g1 g2 => ?_)
  have fin := nx bp2 s2 v2 k2 g1 g2
  have hq2 : q2 < n := by
    rcases hs with g | g | g
    · exact g.1.1
    · exact g.1.1
    · exact g.1.1
  show wp (if (0 : Int) = 0 then _ else _) Q
  rw [if_pos rfl, wp_bd2]
  show wp (iM_look N q2 n T) _
  rw [w_lookM hN hn p1, wp_some, p2]
  rcases hs with g | g | g
  · rw [lk_p g.1, if_pos rfl]
    show wp (iM_fact_b89 N n (W 17) (W 8) (W 5) (W 4) (W 9) (W 3) (W 1) (W 2) (W 18) T (W 6) (W 7) 60 q2 0 bp2 bs s2 e2 o B.length v2 k2) Q
    unfold iM_fact_b89
    rw [wp_gd, wp_bd10]
    refine ⟨jr_iff.mpr (by omega), wp_mono fin (fun r hr => ?_)⟩
    rw [if_pos rfl]
    unfold iM_fact_b128
    rw [g.2.1] at hr
    exact hr
  · rw [lk_p g.1, if_neg (show ¬ (62 : Int) = 60 by decide), if_pos rfl]
    show wp (iM_fact_b89 N n (W 17) (W 8) (W 5) (W 4) (W 9) (W 3) (W 1) (W 2) (W 18) T (W 6) (W 7) 62 q2 0 bp2 bs s2 e2 o B.length v2 k2) Q
    unfold iM_fact_b89
    rw [wp_gd, wp_bd10]
    refine ⟨jr_iff.mpr (by omega), wp_mono fin (fun r hr => ?_)⟩
    rw [if_neg (by decide), if_pos rfl]
    unfold iM_fact_b128
    rw [g.2.1] at hr
    exact hr
  · rw [lk_p g.1, if_neg (show ¬ (61 : Int) = 60 by decide), if_neg (show ¬ (61 : Int) = 62 by decide), if_pos rfl]
    show wp (iM_fact_b89 N n (W 17) (W 8) (W 5) (W 4) (W 9) (W 3) (W 1) (W 2) (W 18) T (W 6) (W 7) 61 q2 0 bp2 bs s2 e2 o B.length v2 k2) Q
    unfold iM_fact_b89
    rw [wp_gd, wp_bd10]
    refine ⟨jr_iff.mpr (by omega), wp_mono fin (fun r hr => ?_)⟩
    rw [if_neg (by decide), if_neg (by decide)]
    unfold iM_fact_b128
    rw [g.2.1] at hr
    exact hr
theorem f_c3 [Inhabited Frm] {T : Nat → Int} {n q q2 : Nat} {e o e2 c d kd p : Int} {a : List Int} (hn : n ≤ 600) (hq : q ≤ n) (hqq : tSk T n q = q) (n17 : ¬ tW T n 17 q e) (n18 : ¬ tW T n 18 q e) (h : RSok T n q e o q2 e2 a) (hp : plc T n q q2 e2 a) (hs : sgn T n q2 c d) (h2 : RSbad T n (tSk T n (q2 + 1)) e2 o kd p) : FBD T n q e o kd p := by
  intro N W bp bs s w v k L B Q hN hW hv hw hk hL hB hnt hQ
  have hq2 : q2 < n := by
    rcases hs with g | g | g
    · exact g.1.1
    · exact g.1.1
    · exact g.1.1
  have z1 : q2 + 1 ≤ tSk T n (q2 + 1) := lR_ge
  have la : a.length ≤ (trl a).length := trl_len a
  have p4 := hp.2.2.2
  refine f_89 hn hq hqq n17 n18 h hp hs hN hW hv hw hk hL hB hnt (fun bp2 s2 v2 k2 g1 g2 => ?_)
  refine h2 N W (q2 + 1) bp2 bs s2 _ v2 k2 (L ++ a) B _ hN hW hq2 rfl g1 rfl g2 (by rw [List.length_append]; omega) (by omega) hnt (fun hk0 a3 b3 s3 e3 o3 w3 v3 k3 i1 => ?_)
  rw [wp_bd2]
  refine w_code0 i1 (fun v4 h4 => ?_)
  rw [wp_some]
  exact hQ hk0 _ _ _ _ _ _ _ _ h4
theorem f_c4 [Inhabited Frm] {T : Nat → Int} {n q q2 q4 : Nat} {e o e2 e4 c d : Int} {a b : List Int} (hn : n ≤ 600) (hq : q ≤ n) (hqq : tSk T n q = q) (n17 : ¬ tW T n 17 q e) (n18 : ¬ tW T n 18 q e) (h : RSok T n q e o q2 e2 a) (hp : plc T n q q2 e2 a) (hs : sgn T n q2 c d) (h2 : RSok T n (tSk T n (q2 + 1)) e2 o q4 e4 b) (hp2 : plc T n (tSk T n (q2 + 1)) q4 e4 b) : FOK T n q e o q4 e4 (a ++ b ++ [c]) := by
  intro N W bp bs s w v k L B Q hN hW hv hw hk hL hB hnt hQ
  have hq2 : q2 < n := by
    rcases hs with g | g | g
    · exact g.1.1
    · exact g.1.1
    · exact g.1.1
  have z1 : q2 + 1 ≤ tSk T n (q2 + 1) := lR_ge
  have la : a.length ≤ (trl a).length := trl_len a
  have lb : b.length ≤ (trl b).length := trl_len b
  have p4 := hp.2.2.2
  obtain ⟨x1, x2, x3, x4⟩ := hp2
  refine f_89 hn hq hqq n17 n18 h hp hs hN hW hv hw hk hL hB hnt (fun bp2 s2 v2 k2 g1 g2 => ?_)
  refine h2 N W (q2 + 1) bp2 bs s2 _ v2 k2 (L ++ a) B _ hN hW hq2 rfl g1 rfl g2 (by rw [List.length_append]; omega) (by omega) hnt (fun bp3 s3 v3 k3 i1 i2 => ?_)
  rw [wp_bd2]
  refine w_code (L := L ++ a ++ b) i1 (by rw [List.length_append, List.length_append]; omega) (fun v4 h4 => ?_)
  rw [wp_some]
  have e1 : L ++ (a ++ b ++ [c]) = L ++ a ++ b ++ [c] := by rw [← List.append_assoc, ← List.append_assoc L a b]
  exact hQ q4 bp3 (s3 + 1) v4 k3 x1 x2 (by rw [e1]; exact h4) i2
