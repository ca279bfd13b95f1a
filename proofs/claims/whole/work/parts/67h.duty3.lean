set_option maxHeartbeats 4000000
set_option maxRecDepth 100000
theorem r4 {g : Nat → Int} {a b : Int} : (va_up (va_up g 0 a) 1 b) 0 = a ∧ (va_up (va_up g 0 a) 1 b) 1 = b ∧ (va_up (va_up g 0 a) 1 b) 2 = g 2 ∧ (va_up (va_up g 0 a) 1 b) 3 = g 3 ∧ (va_up (va_up g 0 a) 1 b) 4 = g 4 := ⟨by rw [va_up_ne _ _ (by decide), va_up_self], va_up_self _ _ _, by rw [va_up_ne _ _ (by decide), va_up_ne _ _ (by decide)], by rw [va_up_ne _ _ (by decide), va_up_ne _ _ (by decide)], by rw [va_up_ne _ _ (by decide), va_up_ne _ _ (by decide)]⟩
theorem r5 {g : Nat → Int} {a b : Int} : (va_up (va_up g 0 a) 2 b) 0 = a ∧ (va_up (va_up g 0 a) 2 b) 1 = g 1 ∧ (va_up (va_up g 0 a) 2 b) 2 = b ∧ (va_up (va_up g 0 a) 2 b) 3 = g 3 ∧ (va_up (va_up g 0 a) 2 b) 4 = g 4 := ⟨by rw [va_up_ne _ _ (by decide), va_up_self], by rw [va_up_ne _ _ (by decide), va_up_ne _ _ (by decide)], va_up_self _ _ _, by rw [va_up_ne _ _ (by decide), va_up_ne _ _ (by decide)], by rw [va_up_ne _ _ (by decide), va_up_ne _ _ (by decide)]⟩
theorem kd_no {N n : Nat} {T : Nat → Int} {q : Nat} {e : Int} (hN : 5000 ≤ N) (hn : n ≤ 600) (hTT : ∀ k, 0 ≤ T k ∧ T k ≤ 255) (hq : q ≤ n) (n0 : ¬ tW T n 0 q e) (n11 : ¬ tW T n 11 q e) (n12 : ¬ tW T n 12 q e) (n14 : ¬ tW T n 14 q e)  : KDbad N T n q e 1 q := by
  intro D y g L fa fp s v Q hy hg hs hv hQ
  have z0 := tS_le (T := T) (n := n) (q := q) hq
  have z1 : tS T n q ≤ tSk T n (tS T n q) := lR_ge
  have z2 : tSk T n (tS T n q) ≤ n := lR_le z0.2.1
  have y0 := tS_le (T := T) (n := n) (q := tSk T n (tS T n q)) z2
  unfold iReader_readDuty
  rw [wp_bd4]
  refine w_takeWord hN hn hq (by decide) (fun t => absurd t n0) (fun _ => ?_)
  show wp (if (0 : Int) = 0 then _ else _) _
  rw [if_pos rfl]
  rw [wp_bd4]
  refine w_takeWord hN hn hq (by decide) (fun t => absurd t n11) (fun _ => ?_)
  show wp (if (0 : Int) = 0 then _ else _) _
  rw [if_pos rfl]
  rw [wp_bd4]
  refine w_takeWord hN hn hq (by decide) (fun t => absurd t n12) (fun _ => ?_)
  show wp (if (0 : Int) = 0 then _ else _) _
  rw [if_pos rfl]
  rw [wp_bd4]
  refine w_takeWord hN hn hq (by decide) (fun t => absurd t n14) (fun _ => ?_)
  show wp (if (0 : Int) = 0 then _ else _) _
  rw [if_pos rfl]
  rw [wp_bd3]
  unfold iReader_fail
  rw [wp_some, wp_gd, wp_some]
  exact ⟨jB_iff.mpr (Or.inl rfl), hQ g _ _ _ _ _ _⟩
theorem kd_farm1 {N n : Nat} {T : Nat → Int} {q : Nat} {e : Int} (hN : 5000 ≤ N) (hn : n ≤ 600) (hTT : ∀ k, 0 ≤ T k ∧ T k ≤ 255) (hq : q ≤ n)  (hj : tW T n 0 q e) {q2 : Nat} {e2 : Int} {l : List Int} (h : CLok T n (g1 N n T 40 2) (tSk T n (tS T n q)) (tS T n q : Nat) 0 q2 e2 l) (hp : plc T n (tSk T n (tS T n q)) q2 e2 l) (hb : tW T n 10 q2 e2) : KDok N T n q e (tSk T n (tS T n q2)) (tS T n q2 : Nat) 1 1 0 0 l := by
  intro D y g L fa fp s v Q hy hg hs hv hQ
  have z0 := tS_le (T := T) (n := n) (q := q) hq
  have z1 : tS T n q ≤ tSk T n (tS T n q) := lR_ge
  have z2 : tSk T n (tS T n q) ≤ n := lR_le z0.2.1
  have y0 := tS_le (T := T) (n := n) (q := tSk T n (tS T n q)) z2
  unfold iReader_readDuty
  rw [wp_bd4]
  refine w_takeWord hN hn hq (by decide) (fun _ => ?_) (fun t => absurd hj t)
  show wp (if (1 : Int) = 0 then _ else _) _
  rw [if_neg (by decide)]
  rw [wp_bd1, wp_some, wp_bd1, jPI_row hy, wp_some, wp_bd9]
  show wp (g1 N n T 40 2 (tSk T n (tS T n q)) fa fp (tK T n (tSk T n (tS T n q)) (tS T n q : Nat)) 0 s (tS T n (tSk T n (tS T n q)) : Nat) v) _
  refine h L fa fp s v _ (by omega) hv (fun s2 v2 h2 => ?_)
  obtain ⟨p1, p2, p3, p4⟩ := hp
  show wp (if (1 : Int) = 0 then _ else _) Q
  rw [if_neg (by decide), wp_bd4]
  refine w_takeWord hN hn p1 (by decide) (fun _ => ?_) (fun t => absurd hb t)
  show wp (if (1 : Int) = 0 then _ else _) _
  rw [if_neg (by decide)]
  unfold iReader_readDuty_b38
  rw [wp_gd, wp_bd1]
  refine ⟨jB_iff.mpr (Or.inr rfl), ?_⟩
  show wp (jPI (jRow D y (va_up g 0 1)) y 0 1 1) _
  rw [jPI_row hy, wp_some, wp_gd, wp_some]
  obtain ⟨r0, r1, r2, r3, r9⟩ := r4 (g := g) (a := 1) (b := 1)
  exact ⟨jB_iff.mpr (Or.inr rfl), hQ _ s2 v2 ⟨r0, r1, by rw [r2, hg.2.2.1], by rw [r3, hg.2.2.2], r9⟩ h2⟩
theorem kd_farm0 {N n : Nat} {T : Nat → Int} {q : Nat} {e : Int} (hN : 5000 ≤ N) (hn : n ≤ 600) (hTT : ∀ k, 0 ≤ T k ∧ T k ≤ 255) (hq : q ≤ n)  (hj : tW T n 0 q e) {q2 : Nat} {e2 : Int} {l : List Int} (h : CLok T n (g1 N n T 40 2) (tSk T n (tS T n q)) (tS T n q : Nat) 0 q2 e2 l) (hp : plc T n (tSk T n (tS T n q)) q2 e2 l) (hb : ¬ tW T n 10 q2 e2) : KDok N T n q e q2 e2 1 0 0 0 l := by
  intro D y g L fa fp s v Q hy hg hs hv hQ
  have z0 := tS_le (T := T) (n := n) (q := q) hq
  have z1 : tS T n q ≤ tSk T n (tS T n q) := lR_ge
  have z2 : tSk T n (tS T n q) ≤ n := lR_le z0.2.1
  have y0 := tS_le (T := T) (n := n) (q := tSk T n (tS T n q)) z2
  unfold iReader_readDuty
  rw [wp_bd4]
  refine w_takeWord hN hn hq (by decide) (fun _ => ?_) (fun t => absurd hj t)
  show wp (if (1 : Int) = 0 then _ else _) _
  rw [if_neg (by decide)]
  rw [wp_bd1, wp_some, wp_bd1, jPI_row hy, wp_some, wp_bd9]
  show wp (g1 N n T 40 2 (tSk T n (tS T n q)) fa fp (tK T n (tSk T n (tS T n q)) (tS T n q : Nat)) 0 s (tS T n (tSk T n (tS T n q)) : Nat) v) _
  refine h L fa fp s v _ (by omega) hv (fun s2 v2 h2 => ?_)
  obtain ⟨p1, p2, p3, p4⟩ := hp
  show wp (if (1 : Int) = 0 then _ else _) Q
  rw [if_neg (by decide), wp_bd4]
  refine w_takeWord hN hn p1 (by decide) (fun t => absurd t hb) (fun _ => ?_)
  show wp (if (0 : Int) = 0 then _ else _) _
  rw [if_pos rfl]
  unfold iReader_readDuty_b38
  rw [wp_gd, wp_bd1]
  refine ⟨jB_iff.mpr (Or.inl rfl), ?_⟩
  show wp (jPI (jRow D y (va_up g 0 1)) y 0 1 0) _
  rw [jPI_row hy, wp_some, wp_gd, wp_some]
  obtain ⟨r0, r1, r2, r3, r9⟩ := r4 (g := g) (a := 1) (b := 0)
  exact ⟨jB_iff.mpr (Or.inr rfl), hQ _ s2 v2 ⟨r0, r1, by rw [r2, hg.2.2.1], by rw [r3, hg.2.2.2], r9⟩ h2⟩
theorem kd_farmB {N n : Nat} {T : Nat → Int} {q : Nat} {e : Int} (hN : 5000 ≤ N) (hn : n ≤ 600) (hTT : ∀ k, 0 ≤ T k ∧ T k ≤ 255) (hq : q ≤ n)  (hj : tW T n 0 q e) {kd p : Int} (h : CLbad T n (g1 N n T 40 2) (tSk T n (tS T n q)) (tS T n q : Nat) 0 kd p) : KDbad N T n q e kd p := by
  intro D y g L fa fp s v Q hy hg hs hv hQ
  have z0 := tS_le (T := T) (n := n) (q := q) hq
  have z1 : tS T n q ≤ tSk T n (tS T n q) := lR_ge
  have z2 : tSk T n (tS T n q) ≤ n := lR_le z0.2.1
  have y0 := tS_le (T := T) (n := n) (q := tSk T n (tS T n q)) z2
  unfold iReader_readDuty
  rw [wp_bd4]
  refine w_takeWord hN hn hq (by decide) (fun _ => ?_) (fun t => absurd hj t)
  show wp (if (1 : Int) = 0 then _ else _) _
  rw [if_neg (by decide)]
  rw [wp_bd1, wp_some, wp_bd1, jPI_row hy, wp_some, wp_bd9]
  show wp (g1 N n T 40 2 (tSk T n (tS T n q)) fa fp (tK T n (tSk T n (tS T n q)) (tS T n q : Nat)) 0 s (tS T n (tSk T n (tS T n q)) : Nat) v) _
  refine h L fa fp s v _ (by omega) hv (fun a k2 o2 s2 t2 v2 => ?_)
  show wp (if (0 : Int) = 0 then _ else _) Q
  rw [if_pos rfl]
  unfold iReader_readDuty_b38
  rw [wp_gd, wp_bd1]
  refine ⟨jB_iff.mpr (Or.inl rfl), ?_⟩
  show wp (jPI (jRow D y (va_up g 0 1)) y 0 1 0) _
  rw [jPI_row hy, wp_some, wp_gd, wp_some]
  exact ⟨jB_iff.mpr (Or.inl rfl), hQ _ _ _ _ _ _ _⟩
theorem kd_allow {N n : Nat} {T : Nat → Int} {q : Nat} {e : Int} (hN : 5000 ≤ N) (hn : n ≤ 600) (hTT : ∀ k, 0 ≤ T k ∧ T k ≤ 255) (hq : q ≤ n) (n0 : ¬ tW T n 0 q e) (hj : tW T n 11 q e) {q2 : Nat} {e2 : Int} {l : List Int} (h : CLok T n (g1 N n T 40 2) (tSk T n (tS T n q)) (tS T n q : Nat) 0 q2 e2 l) : KDok N T n q e q2 e2 2 0 0 0 l := by
  intro D y g L fa fp s v Q hy hg hs hv hQ
  have z0 := tS_le (T := T) (n := n) (q := q) hq
  have z1 : tS T n q ≤ tSk T n (tS T n q) := lR_ge
  have z2 : tSk T n (tS T n q) ≤ n := lR_le z0.2.1
  have y0 := tS_le (T := T) (n := n) (q := tSk T n (tS T n q)) z2
  unfold iReader_readDuty
  rw [wp_bd4]
  refine w_takeWord hN hn hq (by decide) (fun t => absurd t n0) (fun _ => ?_)
  show wp (if (0 : Int) = 0 then _ else _) _
  rw [if_pos rfl]
  rw [wp_bd4]
  refine w_takeWord hN hn hq (by decide) (fun _ => ?_) (fun t => absurd hj t)
  show wp (if (1 : Int) = 0 then _ else _) _
  rw [if_neg (by decide)]
  rw [wp_bd1, wp_some, wp_bd1, jPI_row hy, wp_some, wp_bd9]
  show wp (g1 N n T 40 2 (tSk T n (tS T n q)) fa fp (tK T n (tSk T n (tS T n q)) (tS T n q : Nat)) 0 s (tS T n (tSk T n (tS T n q)) : Nat) v) _
  refine h L fa fp s v _ (by omega) hv (fun s2 v2 h2 => ?_)
  show wp (gd (jB 1) _) Q
  rw [wp_gd, wp_some]
  exact ⟨jB_iff.mpr (Or.inr rfl), hQ _ s2 v2 ⟨va_up_self _ _ _, by rw [va_up_ne _ _ (by decide), hg.2.1], by rw [va_up_ne _ _ (by decide), hg.2.2.1], by rw [va_up_ne _ _ (by decide), hg.2.2.2], va_up_ne _ _ (by decide)⟩ h2⟩
theorem kd_allowB {N n : Nat} {T : Nat → Int} {q : Nat} {e : Int} (hN : 5000 ≤ N) (hn : n ≤ 600) (hTT : ∀ k, 0 ≤ T k ∧ T k ≤ 255) (hq : q ≤ n) (n0 : ¬ tW T n 0 q e) (hj : tW T n 11 q e) {kd p : Int} (h : CLbad T n (g1 N n T 40 2) (tSk T n (tS T n q)) (tS T n q : Nat) 0 kd p) : KDbad N T n q e kd p := by
  intro D y g L fa fp s v Q hy hg hs hv hQ
  have z0 := tS_le (T := T) (n := n) (q := q) hq
  have z1 : tS T n q ≤ tSk T n (tS T n q) := lR_ge
  have z2 : tSk T n (tS T n q) ≤ n := lR_le z0.2.1
  have y0 := tS_le (T := T) (n := n) (q := tSk T n (tS T n q)) z2
  unfold iReader_readDuty
  rw [wp_bd4]
  refine w_takeWord hN hn hq (by decide) (fun t => absurd t n0) (fun _ => ?_)
  show wp (if (0 : Int) = 0 then _ else _) _
  rw [if_pos rfl]
  rw [wp_bd4]
  refine w_takeWord hN hn hq (by decide) (fun _ => ?_) (fun t => absurd hj t)
  show wp (if (1 : Int) = 0 then _ else _) _
  rw [if_neg (by decide)]
  rw [wp_bd1, wp_some, wp_bd1, jPI_row hy, wp_some, wp_bd9]
  show wp (g1 N n T 40 2 (tSk T n (tS T n q)) fa fp (tK T n (tSk T n (tS T n q)) (tS T n q : Nat)) 0 s (tS T n (tSk T n (tS T n q)) : Nat) v) _
  refine h L fa fp s v _ (by omega) hv (fun a k2 o2 s2 t2 v2 => ?_)
  show wp (gd (jB 0) _) Q
  rw [wp_gd, wp_some]
  exact ⟨jB_iff.mpr (Or.inl rfl), hQ _ _ _ _ _ _ _⟩
theorem kd_pard1 {N n : Nat} {T : Nat → Int} {q : Nat} {e : Int} (hN : 5000 ≤ N) (hn : n ≤ 600) (hTT : ∀ k, 0 ≤ T k ∧ T k ≤ 255) (hq : q ≤ n) (n0 : ¬ tW T n 0 q e) (n11 : ¬ tW T n 11 q e) (hj : tW T n 12 q e) {kd p : Int} (h : tN T n (tSk T n (tS T n q)) (tS T n q : Nat) 1 999 = some (kd, p)) : KDbad N T n q e kd p := by
  intro D y g L fa fp s v Q hy hg hs hv hQ
  have z0 := tS_le (T := T) (n := n) (q := q) hq
  have z1 : tS T n q ≤ tSk T n (tS T n q) := lR_ge
  have z2 : tSk T n (tS T n q) ≤ n := lR_le z0.2.1
  have y0 := tS_le (T := T) (n := n) (q := tSk T n (tS T n q)) z2
  unfold iReader_readDuty
  rw [wp_bd4]
  refine w_takeWord hN hn hq (by decide) (fun t => absurd t n0) (fun _ => ?_)
  show wp (if (0 : Int) = 0 then _ else _) _
  rw [if_pos rfl]
  rw [wp_bd4]
  refine w_takeWord hN hn hq (by decide) (fun t => absurd t n11) (fun _ => ?_)
  show wp (if (0 : Int) = 0 then _ else _) _
  rw [if_pos rfl]
  rw [wp_bd4]
  refine w_takeWord hN hn hq (by decide) (fun _ => ?_) (fun t => absurd hj t)
  show wp (if (1 : Int) = 0 then _ else _) _
  rw [if_neg (by decide)]
  rw [wp_bd1, wp_some, wp_bd1, jPI_row hy, wp_some, wp_bd6]
  refine w_readNumber hN hTT hn z2 (fun t => by rw [h] at t; cases t) (fun k3 p3 t => ?_)
  rw [h] at t
  cases t
  rw [wp_bd1]
  show wp (jPI (jRow D y (va_up g 0 3)) y 0 2 (-1)) _
  rw [jPI_row hy, wp_some, wp_bd1, jGI_row hy, wp_some, va_up_self, if_pos rfl]
  unfold iReader_readDuty_b110
  rw [if_pos rfl]
  unfold iReader_readDuty_b131
  rw [wp_bd1, wp_some, wp_bd1, jPI_row hy, wp_some, wp_bd1, wp_some, wp_bd1, jGI_row hy, wp_some, va_up_self, if_pos rfl, wp_some]
  exact hQ _ _ _ _ _ _ _
theorem kd_pard2 {N n : Nat} {T : Nat → Int} {q : Nat} {e : Int} (hN : 5000 ≤ N) (hn : n ≤ 600) (hTT : ∀ k, 0 ≤ T k ∧ T k ≤ 255) (hq : q ≤ n) (n0 : ¬ tW T n 0 q e) (n11 : ¬ tW T n 11 q e) (hj : tW T n 12 q e) (h1 : tN T n (tSk T n (tS T n q)) (tS T n q : Nat) 1 999 = none) (h2 : ¬ tW T n 13 (tSk T n (tS T n (tSk T n (tS T n q)))) (tS T n (tSk T n (tS T n q)) : Nat)) : KDbad N T n q e 1 (tSk T n (tS T n (tSk T n (tS T n q)))) := by
  intro D y g L fa fp s v Q hy hg hs hv hQ
  have z0 := tS_le (T := T) (n := n) (q := q) hq
  have z1 : tS T n q ≤ tSk T n (tS T n q) := lR_ge
  have z2 : tSk T n (tS T n q) ≤ n := lR_le z0.2.1
  have y0 := tS_le (T := T) (n := n) (q := tSk T n (tS T n q)) z2
  unfold iReader_readDuty
  rw [wp_bd4]
  refine w_takeWord hN hn hq (by decide) (fun t => absurd t n0) (fun _ => ?_)
  show wp (if (0 : Int) = 0 then _ else _) _
  rw [if_pos rfl]
  rw [wp_bd4]
  refine w_takeWord hN hn hq (by decide) (fun t => absurd t n11) (fun _ => ?_)
  show wp (if (0 : Int) = 0 then _ else _) _
  rw [if_pos rfl]
  rw [wp_bd4]
  refine w_takeWord hN hn hq (by decide) (fun _ => ?_) (fun t => absurd hj t)
  show wp (if (1 : Int) = 0 then _ else _) _
  rw [if_neg (by decide)]
  rw [wp_bd1, wp_some, wp_bd1, jPI_row hy, wp_some, wp_bd6]
  refine w_readNumber hN hTT hn z2 (fun _ _ _ _ _ => ?_) (fun k3 p3 t => by rw [h1] at t; cases t)
  have hd := dv_b h1
  have x1 : tS T n (tSk T n (tS T n q)) ≤ (tSk T n (tS T n (tSk T n (tS T n q)))) := lR_ge
  have x2 : (tSk T n (tS T n (tSk T n (tS T n q)))) ≤ n := lR_le y0.2.1
  have x0 := tS_le (T := T) (n := n) (q := (tSk T n (tS T n (tSk T n (tS T n q))))) x2
  generalize hV : dV T (tSk T n (tS T n q)) (tS T n (tSk T n (tS T n q)) - (tSk T n (tS T n q))) = V at *
  rw [wp_bd1]
  show wp (jPI (jRow D y (va_up g 0 3)) y 0 2 V) _
  rw [jPI_row hy, wp_some, wp_bd1, jGI_row hy, wp_some, va_up_self, if_neg (show ¬ V = -1 by omega), wp_bd6]
  unfold iReader_needWord
  rw [wp_bd4]
  refine w_takeWord hN hn x2 (by decide) (fun t => absurd t h2) (fun _ => ?_)
  show wp (if (0 : Int) = 0 then _ else _) _
  unfold iReader_fail
  rw [if_pos rfl, wp_bd3, wp_some, if_pos rfl, wp_some]
  show wp (if (0 : Int) = 0 then _ else _) _
  rw [if_pos rfl]
  unfold iReader_readDuty_b110
  rw [if_pos rfl]
  unfold iReader_readDuty_b131
  rw [wp_bd1, wp_some, wp_bd1, jPI_row hy, wp_some, wp_bd1, wp_some, wp_bd1, jGI_row hy, wp_some, va_up_self, if_pos rfl, wp_some]
  exact hQ _ _ _ _ _ _ _
theorem kd_pard3 {N n : Nat} {T : Nat → Int} {q : Nat} {e : Int} (hN : 5000 ≤ N) (hn : n ≤ 600) (hTT : ∀ k, 0 ≤ T k ∧ T k ≤ 255) (hq : q ≤ n) (n0 : ¬ tW T n 0 q e) (n11 : ¬ tW T n 11 q e) (hj : tW T n 12 q e) {kd p : Int} (h1 : tN T n (tSk T n (tS T n q)) (tS T n q : Nat) 1 999 = none) (h2 : tW T n 13 (tSk T n (tS T n (tSk T n (tS T n q)))) (tS T n (tSk T n (tS T n q)) : Nat)) (h3 : tN T n (tSk T n (tS T n (tSk T n (tS T n (tSk T n (tS T n q)))))) (tS T n (tSk T n (tS T n (tSk T n (tS T n q)))) : Nat) (dV T (tSk T n (tS T n q)) (tS T n (tSk T n (tS T n q)) - (tSk T n (tS T n q)))) 999 = some (kd, p)) : KDbad N T n q e kd p := by
  intro D y g L fa fp s v Q hy hg hs hv hQ
  have z0 := tS_le (T := T) (n := n) (q := q) hq
  have z1 : tS T n q ≤ tSk T n (tS T n q) := lR_ge
  have z2 : tSk T n (tS T n q) ≤ n := lR_le z0.2.1
  have y0 := tS_le (T := T) (n := n) (q := tSk T n (tS T n q)) z2
  unfold iReader_readDuty
  rw [wp_bd4]
  refine w_takeWord hN hn hq (by decide) (fun t => absurd t n0) (fun _ => ?_)
  show wp (if (0 : Int) = 0 then _ else _) _
  rw [if_pos rfl]
  rw [wp_bd4]
  refine w_takeWord hN hn hq (by decide) (fun t => absurd t n11) (fun _ => ?_)
  show wp (if (0 : Int) = 0 then _ else _) _
  rw [if_pos rfl]
  rw [wp_bd4]
  refine w_takeWord hN hn hq (by decide) (fun _ => ?_) (fun t => absurd hj t)
  show wp (if (1 : Int) = 0 then _ else _) _
  rw [if_neg (by decide)]
  rw [wp_bd1, wp_some, wp_bd1, jPI_row hy, wp_some, wp_bd6]
  refine w_readNumber hN hTT hn z2 (fun _ _ _ _ _ => ?_) (fun k3 p3 t => by rw [h1] at t; cases t)
  have hd := dv_b h1
  have x1 : tS T n (tSk T n (tS T n q)) ≤ (tSk T n (tS T n (tSk T n (tS T n q)))) := lR_ge
  have x2 : (tSk T n (tS T n (tSk T n (tS T n q)))) ≤ n := lR_le y0.2.1
  have x0 := tS_le (T := T) (n := n) (q := (tSk T n (tS T n (tSk T n (tS T n q))))) x2
  generalize hV : dV T (tSk T n (tS T n q)) (tS T n (tSk T n (tS T n q)) - (tSk T n (tS T n q))) = V at *
  rw [wp_bd1]
  show wp (jPI (jRow D y (va_up g 0 3)) y 0 2 V) _
  rw [jPI_row hy, wp_some, wp_bd1, jGI_row hy, wp_some, va_up_self, if_neg (show ¬ V = -1 by omega), wp_bd6]
  unfold iReader_needWord
  rw [wp_bd4]
  refine w_takeWord hN hn x2 (by decide) (fun _ => ?_) (fun t => absurd h2 t)
  show wp (if (1 : Int) = 0 then _ else _) _
  rw [if_neg (by decide), wp_some]
  show wp (if (1 : Int) = 0 then _ else _) _
  rw [if_neg (by decide)]
  have x3 : (tSk T n (tS T n (tSk T n (tS T n (tSk T n (tS T n q)))))) ≤ n := lR_le x0.2.1
  unfold iReader_readDuty_b110
  rw [if_neg (by decide), wp_bd1, wp_some, wp_bd1, jGI_row hy, wp_some, va_up_self, wp_bd6]
  refine w_readNumber hN hTT hn x3 (fun t => by rw [h3] at t; cases t) (fun k3 p3 t => ?_)
  rw [h3] at t
  cases t
  unfold iReader_readDuty_b131
  rw [wp_bd1, wp_some, wp_bd1, jPI_row hy, wp_some, wp_bd1, wp_some, wp_bd1, jGI_row hy, wp_some, va_up_self, if_pos rfl, wp_some]
  exact hQ _ _ _ _ _ _ _
theorem kd_pard4 {N n : Nat} {T : Nat → Int} {q : Nat} {e : Int} (hN : 5000 ≤ N) (hn : n ≤ 600) (hTT : ∀ k, 0 ≤ T k ∧ T k ≤ 255) (hq : q ≤ n) (n0 : ¬ tW T n 0 q e) (n11 : ¬ tW T n 11 q e) (hj : tW T n 12 q e) (h1 : tN T n (tSk T n (tS T n q)) (tS T n q : Nat) 1 999 = none) (h2 : tW T n 13 (tSk T n (tS T n (tSk T n (tS T n q)))) (tS T n (tSk T n (tS T n q)) : Nat)) (h3 : tN T n (tSk T n (tS T n (tSk T n (tS T n (tSk T n (tS T n q)))))) (tS T n (tSk T n (tS T n (tSk T n (tS T n q)))) : Nat) (dV T (tSk T n (tS T n q)) (tS T n (tSk T n (tS T n q)) - (tSk T n (tS T n q)))) 999 = none) : KDok N T n q e (tSk T n (tS T n (tSk T n (tS T n (tSk T n (tS T n (tSk T n (tS T n q)))))))) (tS T n (tSk T n (tS T n (tSk T n (tS T n (tSk T n (tS T n q)))))) : Nat) 3 0 (dV T (tSk T n (tS T n q)) (tS T n (tSk T n (tS T n q)) - (tSk T n (tS T n q)))) (dV T (tSk T n (tS T n (tSk T n (tS T n (tSk T n (tS T n q)))))) (tS T n (tSk T n (tS T n (tSk T n (tS T n (tSk T n (tS T n q)))))) - (tSk T n (tS T n (tSk T n (tS T n (tSk T n (tS T n q)))))))) [] := by
  intro D y g L fa fp s v Q hy hg hs hv hQ
  have z0 := tS_le (T := T) (n := n) (q := q) hq
  have z1 : tS T n q ≤ tSk T n (tS T n q) := lR_ge
  have z2 : tSk T n (tS T n q) ≤ n := lR_le z0.2.1
  have y0 := tS_le (T := T) (n := n) (q := tSk T n (tS T n q)) z2
  unfold iReader_readDuty
  rw [wp_bd4]
  refine w_takeWord hN hn hq (by decide) (fun t => absurd t n0) (fun _ => ?_)
  show wp (if (0 : Int) = 0 then _ else _) _
  rw [if_pos rfl]
  rw [wp_bd4]
  refine w_takeWord hN hn hq (by decide) (fun t => absurd t n11) (fun _ => ?_)
  show wp (if (0 : Int) = 0 then _ else _) _
  rw [if_pos rfl]
  rw [wp_bd4]
  refine w_takeWord hN hn hq (by decide) (fun _ => ?_) (fun t => absurd hj t)
  show wp (if (1 : Int) = 0 then _ else _) _
  rw [if_neg (by decide)]
  rw [wp_bd1, wp_some, wp_bd1, jPI_row hy, wp_some, wp_bd6]
  refine w_readNumber hN hTT hn z2 (fun _ _ _ _ _ => ?_) (fun k3 p3 t => by rw [h1] at t; cases t)
  have hd := dv_b h1
  have x1 : tS T n (tSk T n (tS T n q)) ≤ (tSk T n (tS T n (tSk T n (tS T n q)))) := lR_ge
  have x2 : (tSk T n (tS T n (tSk T n (tS T n q)))) ≤ n := lR_le y0.2.1
  have x0 := tS_le (T := T) (n := n) (q := (tSk T n (tS T n (tSk T n (tS T n q))))) x2
  generalize hV : dV T (tSk T n (tS T n q)) (tS T n (tSk T n (tS T n q)) - (tSk T n (tS T n q))) = V at *
  rw [wp_bd1]
  show wp (jPI (jRow D y (va_up g 0 3)) y 0 2 V) _
  rw [jPI_row hy, wp_some, wp_bd1, jGI_row hy, wp_some, va_up_self, if_neg (show ¬ V = -1 by omega), wp_bd6]
  unfold iReader_needWord
  rw [wp_bd4]
  refine w_takeWord hN hn x2 (by decide) (fun _ => ?_) (fun t => absurd h2 t)
  show wp (if (1 : Int) = 0 then _ else _) _
  rw [if_neg (by decide), wp_some]
  show wp (if (1 : Int) = 0 then _ else _) _
  rw [if_neg (by decide)]
  have x3 : (tSk T n (tS T n (tSk T n (tS T n (tSk T n (tS T n q)))))) ≤ n := lR_le x0.2.1
  unfold iReader_readDuty_b110
  rw [if_neg (by decide), wp_bd1, wp_some, wp_bd1, jGI_row hy, wp_some, va_up_self, wp_bd6]
  refine w_readNumber hN hTT hn x3 (fun _ _ _ _ _ => ?_) (fun k3 p3 t => by rw [h3] at t; cases t)
  have hd2 := dv_b h3
  generalize hV2 : dV T (tSk T n (tS T n (tSk T n (tS T n (tSk T n (tS T n q)))))) (tS T n (tSk T n (tS T n (tSk T n (tS T n (tSk T n (tS T n q)))))) - (tSk T n (tS T n (tSk T n (tS T n (tSk T n (tS T n q))))))) = V2 at *
  unfold iReader_readDuty_b131
  rw [wp_bd1, wp_some, wp_bd1, jPI_row hy, wp_some, wp_bd1, wp_some, wp_bd1, jGI_row hy, wp_some, va_up_self, if_neg (show ¬ V2 = -1 by omega), wp_some]
  obtain ⟨r0, r1, r2, r3, r9⟩ := r5 (g := g) (a := 3) (b := V)
  exact hQ _ s v ⟨by rw [va_up_ne _ _ (by decide), r0], by rw [va_up_ne _ _ (by decide), r1, hg.2.1], by rw [va_up_ne _ _ (by decide), r2], va_up_self _ _ _, by rw [va_up_ne _ _ (by decide), r9]⟩ (by rw [List.append_nil]; exact hv)
theorem kd_spl1 {N n : Nat} {T : Nat → Int} {q : Nat} {e : Int} (hN : 5000 ≤ N) (hn : n ≤ 600) (hTT : ∀ k, 0 ≤ T k ∧ T k ≤ 255) (hq : q ≤ n) (n0 : ¬ tW T n 0 q e) (n11 : ¬ tW T n 11 q e) (n12 : ¬ tW T n 12 q e) (hj : tW T n 14 q e) {kd p : Int} (h : tN T n (tSk T n (tS T n q)) (tS T n q : Nat) 2 20 = some (kd, p)) : KDbad N T n q e kd p := by
  intro D y g L fa fp s v Q hy hg hs hv hQ
  have z0 := tS_le (T := T) (n := n) (q := q) hq
  have z1 : tS T n q ≤ tSk T n (tS T n q) := lR_ge
  have z2 : tSk T n (tS T n q) ≤ n := lR_le z0.2.1
  have y0 := tS_le (T := T) (n := n) (q := tSk T n (tS T n q)) z2
  unfold iReader_readDuty
  rw [wp_bd4]
  refine w_takeWord hN hn hq (by decide) (fun t => absurd t n0) (fun _ => ?_)
  show wp (if (0 : Int) = 0 then _ else _) _
  rw [if_pos rfl]
  rw [wp_bd4]
  refine w_takeWord hN hn hq (by decide) (fun t => absurd t n11) (fun _ => ?_)
  show wp (if (0 : Int) = 0 then _ else _) _
  rw [if_pos rfl]
  rw [wp_bd4]
  refine w_takeWord hN hn hq (by decide) (fun t => absurd t n12) (fun _ => ?_)
  show wp (if (0 : Int) = 0 then _ else _) _
  rw [if_pos rfl]
  rw [wp_bd4]
  refine w_takeWord hN hn hq (by decide) (fun _ => ?_) (fun t => absurd hj t)
  show wp (if (1 : Int) = 0 then _ else _) _
  rw [if_neg (by decide)]
  rw [wp_bd1, wp_some, wp_bd1, jPI_row hy, wp_some, wp_bd6]
  refine w_readNumber hN hTT hn z2 (fun t => by rw [h] at t; cases t) (fun k3 p3 t => ?_)
  rw [h] at t
  cases t
  rw [wp_bd1]
  show wp (jPI (jRow D y (va_up g 0 4)) y 0 2 (-1)) _
  rw [jPI_row hy, wp_some, wp_bd1, jGI_row hy, wp_some, va_up_self, if_pos rfl, wp_some]
  exact hQ _ _ _ _ _ _ _
theorem kd_spl2 {N n : Nat} {T : Nat → Int} {q : Nat} {e : Int} (hN : 5000 ≤ N) (hn : n ≤ 600) (hTT : ∀ k, 0 ≤ T k ∧ T k ≤ 255) (hq : q ≤ n) (n0 : ¬ tW T n 0 q e) (n11 : ¬ tW T n 11 q e) (n12 : ¬ tW T n 12 q e) (hj : tW T n 14 q e) (h : tN T n (tSk T n (tS T n q)) (tS T n q : Nat) 2 20 = none) : KDok N T n q e (tSk T n (tS T n (tSk T n (tS T n q)))) (tS T n (tSk T n (tS T n q)) : Nat) 4 0 (dV T (tSk T n (tS T n q)) (tS T n (tSk T n (tS T n q)) - (tSk T n (tS T n q)))) 0 [] := by
  intro D y g L fa fp s v Q hy hg hs hv hQ
  have z0 := tS_le (T := T) (n := n) (q := q) hq
  have z1 : tS T n q ≤ tSk T n (tS T n q) := lR_ge
  have z2 : tSk T n (tS T n q) ≤ n := lR_le z0.2.1
  have y0 := tS_le (T := T) (n := n) (q := tSk T n (tS T n q)) z2
  unfold iReader_readDuty
  rw [wp_bd4]
  refine w_takeWord hN hn hq (by decide) (fun t => absurd t n0) (fun _ => ?_)
  show wp (if (0 : Int) = 0 then _ else _) _
  rw [if_pos rfl]
  rw [wp_bd4]
  refine w_takeWord hN hn hq (by decide) (fun t => absurd t n11) (fun _ => ?_)
  show wp (if (0 : Int) = 0 then _ else _) _
  rw [if_pos rfl]
  rw [wp_bd4]
  refine w_takeWord hN hn hq (by decide) (fun t => absurd t n12) (fun _ => ?_)
  show wp (if (0 : Int) = 0 then _ else _) _
  rw [if_pos rfl]
  rw [wp_bd4]
  refine w_takeWord hN hn hq (by decide) (fun _ => ?_) (fun t => absurd hj t)
  show wp (if (1 : Int) = 0 then _ else _) _
  rw [if_neg (by decide)]
  rw [wp_bd1, wp_some, wp_bd1, jPI_row hy, wp_some, wp_bd6]
  refine w_readNumber hN hTT hn z2 (fun _ _ _ _ _ => ?_) (fun k3 p3 t => by rw [h] at t; cases t)
  have hd := dv_b h
  generalize hV : dV T (tSk T n (tS T n q)) (tS T n (tSk T n (tS T n q)) - (tSk T n (tS T n q))) = V at *
  rw [wp_bd1]
  show wp (jPI (jRow D y (va_up g 0 4)) y 0 2 V) _
  rw [jPI_row hy, wp_some, wp_bd1, jGI_row hy, wp_some, va_up_self, if_neg (show ¬ V = -1 by omega), wp_some]
  obtain ⟨r0, r1, r2, r3, r9⟩ := r5 (g := g) (a := 4) (b := V)
  exact hQ _ s v ⟨r0, by rw [r1, hg.2.1], r2, by rw [r3, hg.2.2.2], r9⟩ (by rw [List.append_nil]; exact hv)
theorem duty_both [Inhabited Frm] {N n : Nat} {T : Nat → Int} {q : Nat} {e : Int} (hN : 5000 ≤ N) (hn : n ≤ 600) (hTT : ∀ k, 0 ≤ T k ∧ T k ≤ 255) (hq : q ≤ n) (hqq : tSk T n q = q) (he : e ≤ (q : Int)) : (∃ (q2 : Nat) (e2 kd bl f1 f2 : Int) (l : List Int), KDok N T n q e q2 e2 kd bl f1 f2 l ∧ plc T n q q2 e2 l ∧ q < q2 ∧ stOk kd bl f1 f2 l ∧ RDok T n q e q2 e2 kd bl f1 f2 l) ∨ ∃ kd p, KDbad N T n q e kd p ∧ RDbad T n q e kd p := by
  have z0 := tS_le (T := T) (n := n) (q := q) hq
  have z1 : tS T n q ≤ (tSk T n (tS T n q)) := lR_ge
  have z2 : (tSk T n (tS T n q)) ≤ n := lR_le z0.2.1
  have z3 : tSk T n (tSk T n (tS T n q)) = (tSk T n (tS T n q)) := lR_id
  have y0 := tS_le (T := T) (n := n) (q := (tSk T n (tS T n q))) z2
  have x1 : tS T n (tSk T n (tS T n q)) ≤ (tSk T n (tS T n (tSk T n (tS T n q)))) := lR_ge
  have x2 : (tSk T n (tS T n (tSk T n (tS T n q)))) ≤ n := lR_le y0.2.1
  have x0 := tS_le (T := T) (n := n) (q := (tSk T n (tS T n (tSk T n (tS T n q))))) x2
  have w1 : tS T n (tSk T n (tS T n (tSk T n (tS T n q)))) ≤ (tSk T n (tS T n (tSk T n (tS T n (tSk T n (tS T n q)))))) := lR_ge
  have w2 : (tSk T n (tS T n (tSk T n (tS T n (tSk T n (tS T n q)))))) ≤ n := lR_le x0.2.1
  have w0 := tS_le (T := T) (n := n) (q := (tSk T n (tS T n (tSk T n (tS T n (tSk T n (tS T n q))))))) w2
  have v1 : tS T n (tSk T n (tS T n (tSk T n (tS T n (tSk T n (tS T n q)))))) ≤ (tSk T n (tS T n (tSk T n (tS T n (tSk T n (tS T n (tSk T n (tS T n q)))))))) := lR_ge
  have v2 : (tSk T n (tS T n (tSk T n (tS T n (tSk T n (tS T n (tSk T n (tS T n q)))))))) ≤ n := lR_le w0.2.1
  have sm := sum_both hn hTT (sum_at hN hn hTT (o := 0) (by omega) z2 z3 (show ((tS T n q : Nat) : Int) ≤ _ by omega))
  by_cases t0 : tW T n 0 q e
  · have z4 := z0.2.2 t0.1
    rcases sm with ⟨q2, e2, l, r1, r2, r3, r4, r5⟩ | ⟨kd, p, r1, r5⟩
    · have r2' := r2
      obtain ⟨p1, p2, p3, p4⟩ := r2'
      have u0 := tS_le (T := T) (n := n) (q := q2) p1
      have u1 : tS T n q2 ≤ tSk T n (tS T n q2) := lR_ge
      have u2 : tSk T n (tS T n q2) ≤ n := lR_le u0.2.1
      by_cases tb : tW T n 10 q2 e2
      · have u4 := u0.2.2 tb.1
        exact Or.inl ⟨_, _, _, _, _, _, _, kd_farm1 hN hn hTT hq t0 r1 r2 tb, ⟨u2, lR_id, (show ((tS T n q2 : Nat) : Int) ≤ _ by omega), by omega⟩, by omega, Or.inl ⟨rfl, Or.inr rfl, rfl, rfl, r4⟩, rd_farm1 hn hTT t0 r5 r2 tb⟩
      · exact Or.inl ⟨_, _, _, _, _, _, _, kd_farm0 hN hn hTT hq t0 r1 r2 tb, ⟨p1, p2, p3, by omega⟩, by omega, Or.inl ⟨rfl, Or.inl rfl, rfl, rfl, r4⟩, rd_farm0 hn hTT t0 r5 r2 tb⟩
    · exact Or.inr ⟨kd, p, kd_farmB hN hn hTT hq t0 r1, rd_farmB hn hTT t0 r5⟩
  · by_cases t11 : tW T n 11 q e
    · have z4 := z0.2.2 t11.1
      rcases sm with ⟨q2, e2, l, r1, r2, r3, r4, r5⟩ | ⟨kd, p, r1, r5⟩
      · have r2' := r2
        obtain ⟨p1, p2, p3, p4⟩ := r2'
        exact Or.inl ⟨_, _, _, _, _, _, _, kd_allow hN hn hTT hq t0 t11 r1, ⟨p1, p2, p3, by omega⟩, by omega, Or.inr (Or.inl ⟨rfl, rfl, rfl, rfl, r4⟩), rd_allow hn hTT t0 t11 r5 r2⟩
      · exact Or.inr ⟨kd, p, kd_allowB hN hn hTT hq t0 t11 r1, rd_allowB hn hTT t0 t11 r5⟩
    · by_cases t12 : tW T n 12 q e
      · have z4 := z0.2.2 t12.1
        cases h1 : tN T n (tSk T n (tS T n q)) (tS T n q : Nat) 1 999 with
        | some kp =>
          obtain ⟨kd, p⟩ := kp
          exact Or.inr ⟨kd, p, kd_pard1 hN hn hTT hq t0 t11 t12 h1, rd_pard1 hn hTT t0 t11 t12 h1⟩
        | none =>
          have hd := dv_b h1
          have y4 := y0.2.2 (tN_ok h1).1.1
          by_cases h2 : tW T n 13 (tSk T n (tS T n (tSk T n (tS T n q)))) (tS T n (tSk T n (tS T n q)) : Nat)
          · have x4 := x0.2.2 h2.1
            cases h3 : tN T n (tSk T n (tS T n (tSk T n (tS T n (tSk T n (tS T n q)))))) (tS T n (tSk T n (tS T n (tSk T n (tS T n q)))) : Nat) (dV T (tSk T n (tS T n q)) (tS T n (tSk T n (tS T n q)) - (tSk T n (tS T n q)))) 999 with
            | some kp =>
              obtain ⟨kd, p⟩ := kp
              exact Or.inr ⟨kd, p, kd_pard3 hN hn hTT hq t0 t11 t12 h1 h2 h3, rd_pard3 hn hTT t0 t11 t12 h1 h2 h3⟩
            | none =>
              have hd2 := dv_b h3
              exact Or.inl ⟨_, _, _, _, _, _, _, kd_pard4 hN hn hTT hq t0 t11 t12 h1 h2 h3, ⟨v2, lR_id, (show ((tS T n (tSk T n (tS T n (tSk T n (tS T n (tSk T n (tS T n q)))))) : Nat) : Int) ≤ _ by omega), by show 0 + q ≤ _; omega⟩, by omega, Or.inr (Or.inr (Or.inl ⟨rfl, rfl, ⟨hd.1, hd2.1, hd2.2⟩, rfl⟩)), rd_pard4 hn hTT t0 t11 t12 h1 h2 h3⟩
          · exact Or.inr ⟨1, _, kd_pard2 hN hn hTT hq t0 t11 t12 h1 h2, rd_pard2 hn hTT t0 t11 t12 h1 h2⟩
      · by_cases t14 : tW T n 14 q e
        · have z4 := z0.2.2 t14.1
          cases h1 : tN T n (tSk T n (tS T n q)) (tS T n q : Nat) 2 20 with
          | some kp =>
            obtain ⟨kd, p⟩ := kp
            exact Or.inr ⟨kd, p, kd_spl1 hN hn hTT hq t0 t11 t12 t14 h1, rd_spl1 hn hTT t0 t11 t12 t14 h1⟩
          | none =>
            have hd := dv_b h1
            exact Or.inl ⟨_, _, _, _, _, _, _, kd_spl2 hN hn hTT hq t0 t11 t12 t14 h1, ⟨x2, lR_id, (show ((tS T n (tSk T n (tS T n q)) : Nat) : Int) ≤ _ by omega), by show 0 + q ≤ _; omega⟩, by omega, Or.inr (Or.inr (Or.inr ⟨rfl, rfl, hd, rfl, rfl⟩)), rd_spl2 hn hTT t0 t11 t12 t14 h1⟩
        · exact Or.inr ⟨1, _, kd_no hN hn hTT hq t0 t11 t12 t14, rd_no hn hTT t0 t11 t12 t14⟩
