set_option maxHeartbeats 4000000
set_option maxRecDepth 100000
theorem ra_146 [Inhabited Frm] {C : Rx} (h : okR C) {L S : List Int} {q : Nat} {e o : Int} (n40 : ¬ tM C.T C.n q 40) (n4 : ¬ tW C.T C.n 4 q e) (n5 : ¬ tW C.T C.n 5 q e) (nx : ∀ (m : Nat) (bp : MOne) (s w : Int) (v k : Nat → Int), q ≤ C.n → tSk C.T C.n q = q → C.n - q < m → cod v s L → w = (S ++ C.B).length → stk k (S ++ C.B) → wp (P6 C s v q 0 bp e o w k) (RAg C m)) : RA C L S q e o := by
  intro x m p1 bp s w v k hx hxq hm hp hv hw hk
  obtain ⟨p2, rfl⟩ : ∃ p2, p1 = p2 + 1 := ⟨p1 - 1, by omega⟩
  obtain ⟨p3, rfl⟩ : ∃ p3, p2 = p3 + 1 := ⟨p2 - 1, by omega⟩
  have hn := h.hn
  have hN := h.hN
  have hqq : tSk C.T C.n q = q := by rw [← hxq]; exact lR_id
  have hqn : q ≤ C.n := by rw [← hxq]; exact lR_le hx
  have fin := nx m bp s w v k (by omega) hqq hm hv hw hk
  show wp (iM_part_b2_F C.N C.n (C.w 8) (C.w 5) (C.w 4) (C.w 9) (C.w 3) (C.w 1) (C.w 2) C.T (C.w 6) (C.w 7) s v (P6 C s v) (P2 C s v (p3 + 1)) 1 x 0 bp e o w k) (RAg C m)
  unfold iM_part_b2_F
  rw [if_neg (by decide), if_pos rfl, wp_bd2, w_lookM hN hn hx, wp_some, hxq, if_neg (lk_n n40 (by decide)), wp_bd2]
  obtain ⟨b, b1, b2, b3⟩ := w_isHere hN (e := e) hn (x := q) (by omega) (h.wd (a := 4) (len := 3) (by decide) rfl)
  rw [hqq] at b2 b3
  show wp (iM_isHere C.N 3 (C.w 4) q 0 C.n e C.T) _
  rw [b3, wp_some]
  show wp (if b = 0 then _ else _) _
  rw [if_pos (by
    rcases b1 with g | g
    · exact g
    · exact absurd (b2.mp g) n4), wp_bd2]
  obtain ⟨d, d1, d2, d3⟩ := w_isHere hN (e := e) hn (x := q) (by omega) (h.wd (a := 5) (len := 3) (by decide) rfl)
  rw [hqq] at d2 d3
  show wp (iM_isHere C.N 3 (C.w 5) q 0 C.n e C.T) _
  rw [d3, wp_some]
  show wp (if d = 0 then _ else _) _
  rw [if_pos (by
    rcases d1 with g | g
    · exact g
    · exact absurd (d2.mp g) n5)]
  show wp (iM_part_b2_F C.N C.n (C.w 8) (C.w 5) (C.w 4) (C.w 9) (C.w 3) (C.w 1) (C.w 2) C.T (C.w 6) (C.w 7) s v (P6 C s v) (P2 C s v p3) 0 q 0 bp e o w k) (RAg C m)
  unfold iM_part_b2_F
  rw [if_pos rfl]
  exact fin
theorem p6_w [Inhabited Frm] {C : Rx} (h : okR C) {L S : List Int} {q m : Nat} {bp : MOne} {s o w c : Int} {k v2 : Nat → Int} (nx : RB C (L ++ [c]) S (tSk C.T C.n (tS C.T C.n q)) (tS C.T C.n q : Nat) o) (hq : q < C.n) (hm : C.n - q < m) (hw : w = (S ++ C.B).length) (hk : stk k (S ++ C.B)) (h2 : cod v2 (s + 1) (L ++ [c])) : RAg C m ((tS C.T C.n q : Nat), 0, bp, s + 1, (tS C.T C.n q : Nat), o, w, v2, k) := by
  have t0 := tS_le (T := C.T) (n := C.n) (q := q) (by omega)
  have t1 := t0.2.2 hq
  have t4 : tS C.T C.n q ≤ tSk C.T C.n (tS C.T C.n q) := lR_ge
  exact ra_b h.hN nx h.hn t0.2.1 rfl (by omega) h2 hw hk
theorem ra_atom [Inhabited Frm] {C : Rx} (h : okR C) {L S : List Int} {q : Nat} {e o c : Int} (hL : L.length ≤ 600) (n40 : ¬ tM C.T C.n q 40) (n4 : ¬ tW C.T C.n 4 q e) (n5 : ¬ tW C.T C.n 5 q e) (hq : tW C.T C.n 6 q e ∧ c = 7 ∨ ¬ tW C.T C.n 6 q e ∧ (tW C.T C.n 7 q e ∧ c = 8 ∨ ¬ tW C.T C.n 7 q e ∧ (tW C.T C.n 8 q e ∧ c = 9 ∨ ¬ tW C.T C.n 8 q e ∧ tW C.T C.n 9 q e ∧ c = 10))) (nx : RB C (L ++ [c]) S (tSk C.T C.n (tS C.T C.n q)) (tS C.T C.n q : Nat) o) : RA C L S q e o := by
  refine ra_146 h n40 n4 n5 ?_
  intro m bp s w v k hx hqq hm hv hw hk
  have hn := h.hn
  have hN := h.hN
  have cd : ∀ c2, q < C.n → c2 = c → wp (iM_code c2 s v) (fun r => RAg C m ((tS C.T C.n q : Nat), 0, bp, r.1, (tS C.T C.n q : Nat), o, w, r.2, k)) := fun c2 hq2 e1 => by
    rw [e1]
    exact w_code hv (by omega) (fun v2 h2 => p6_w h nx hq2 hm hw hk h2)
  unfold P6 iM_part_b146
  rw [if_pos rfl, wp_bd3]
  refine w_takes hN hn hx (h.wd (a := 6) (by decide) rfl) (fun t => ?_) (fun t => ?_)
  · rw [hqq] at t ⊢
    show wp (if (1 : Int) = 0 then _ else _) _
    rw [if_neg (by decide), wp_bd2]
    refine wp_mono (cd 7 t.1 ?_) (fun r hr => by rw [wp_some]; exact hr)
    rcases hq with g | g
    · exact g.2.symm
    · exact absurd t g.1
  · rw [hqq] at t ⊢
    have hq := hq.resolve_left (fun g => t g.1)
    show wp (if (0 : Int) = 0 then _ else _) _
    rw [if_pos rfl, wp_bd3]
    refine w_takes hN hn hx (h.wd (a := 7) (by decide) rfl) (fun t => ?_) (fun t => ?_)
    · rw [hqq] at t ⊢
      show wp (if (1 : Int) = 0 then _ else _) _
      rw [if_neg (by decide), wp_bd2]
      refine wp_mono (cd 8 t.1 ?_) (fun r hr => by rw [wp_some]; exact hr)
      rcases hq.2 with g | g
      · exact g.2.symm
      · exact absurd t g.1
    · rw [hqq] at t ⊢
      have hq := hq.2.resolve_left (fun g => t g.1)
      show wp (if (0 : Int) = 0 then _ else _) _
      rw [if_pos rfl, wp_bd3]
      refine w_takes hN hn hx (h.wd (a := 8) (by decide) rfl) (fun t => ?_) (fun t => ?_)
      · rw [hqq] at t ⊢
        show wp (if (1 : Int) = 0 then _ else _) _
        rw [if_neg (by decide), wp_bd2]
        refine wp_mono (cd 9 t.1 ?_) (fun r hr => by rw [wp_some]; exact hr)
        rcases hq.2 with g | g
        · exact g.2.symm
        · exact absurd t g.1
      · rw [hqq] at t ⊢
        have hq := hq.2.resolve_left (fun g => t g.1)
        show wp (if (0 : Int) = 0 then _ else _) _
        rw [if_pos rfl, wp_bd3]
        refine w_takes hN hn hx (h.wd (a := 9) (by decide) rfl) (fun t => ?_) (fun t => ?_)
        · rw [hqq] at t ⊢
          show wp (if (1 : Int) = 0 then _ else _) _
          rw [if_neg (by decide), wp_bd2]
          exact wp_mono (cd 10 t.1 hq.2.2.symm) (fun r hr => by rw [wp_some]; exact hr)
        · rw [hqq] at t
          exact absurd hq.2.1 t
/-- the unit behind a number -/
def un (T : Nat → Int) (n q : Nat) (e u : Int) (q2 : Nat) (e2 : Int) : Prop := (tW T n 1 q e ∧ u = 240 ∧ q2 = tSk T n (tS T n q) ∧ e2 = (tS T n q : Nat)) ∨ (tW T n 2 q e ∧ u = 12 ∧ q2 = tSk T n (tS T n q) ∧ e2 = (tS T n q : Nat)) ∨ (tW T n 3 q e ∧ u = 1 ∧ q2 = tSk T n (tS T n q) ∧ e2 = (tS T n q : Nat)) ∨ (¬ tW T n 1 q e ∧ ¬ tW T n 2 q e ∧ ¬ tW T n 3 q e ∧ u = 1 ∧ q2 = q ∧ e2 = e)
theorem tN_ok {T : Nat → Int} {n q : Nat} {e least most : Int} (h : tN T n q e least most = none) : (q < n ∧ lD (T q) = true ∧ (q : Int) ≠ e) ∧ tS T n q - q ≤ 5 ∧ least ≤ dV T q (tS T n q - q) ∧ dV T q (tS T n q - q) ≤ most := by
  unfold tN at h
  by_cases a : q < n ∧ lD (T q) = true ∧ (q : Int) ≠ e
  · rw [if_pos a] at h
    by_cases b : 5 < tS T n q - q
    · rw [if_pos b] at h
      cases h
    · rw [if_neg b] at h
      by_cases c : least ≤ dV T q (tS T n q - q) ∧ dV T q (tS T n q - q) ≤ most
      · exact ⟨a, by omega, c⟩
      · rw [if_neg c] at h
        cases h
  · rw [if_neg a] at h
    cases h
theorem tN_no {T : Nat → Int} {n q : Nat} {e least most k p : Int} (h : tN T n q e least most = some (k, p)) : k = 1 ∨ k = 2 := by
  unfold tN at h
  by_cases a : q < n ∧ lD (T q) = true ∧ (q : Int) ≠ e
  · rw [if_pos a] at h
    by_cases b : 5 < tS T n q - q
    · rw [if_pos b] at h
      cases h
      exact Or.inl rfl
    · rw [if_neg b] at h
      by_cases c : least ≤ dV T q (tS T n q - q) ∧ dV T q (tS T n q - q) ≤ most
      · rw [if_pos c] at h
        cases h
      · rw [if_neg c] at h
        cases h
        exact Or.inr rfl
  · rw [if_neg a] at h
    cases h
    exact Or.inl rfl
theorem ra_num [Inhabited Frm] {C : Rx} (h : okR C) {L S : List Int} {q : Nat} {e o : Int} (hL : L.length ≤ 600) (n40 : ¬ tM C.T C.n q 40) (n4 : ∀ a, 4 ≤ a → a ≤ 9 → ¬ tW C.T C.n a q e) (hb : ∀ kd p, tN C.T C.n q e 0 99999 = some (kd, p) → FL C kd p) (nx : tN C.T C.n q e 0 99999 = none → ∀ (u : Int) (q2 : Nat) (e2 : Int), un C.T C.n (tSk C.T C.n (tS C.T C.n q)) (tS C.T C.n q : Nat) u q2 e2 → RB C (L ++ [1000 + dV C.T q (tS C.T C.n q - q) * u]) S q2 e2 o) : RA C L S q e o := by
  refine ra_146 h n40 (n4 4 (by decide) (by decide)) (n4 5 (by decide) (by decide)) ?_
  intro m bp s w v k hx hqq hm hv hw hk
  have hn := h.hn
  have hN := h.hN
  unfold P6 iM_part_b146
  rw [if_pos rfl, wp_bd3]
  refine w_takes hN hn hx (h.wd (a := 6) (by decide) rfl) (fun t => absurd (by rw [hqq] at t; exact t) (n4 6 (by decide) (by decide))) (fun t => ?_)
  rw [hqq]
  show wp (if (0 : Int) = 0 then _ else _) _
  rw [if_pos rfl, wp_bd3]
  refine w_takes hN hn hx (h.wd (a := 7) (by decide) rfl) (fun t => absurd (by rw [hqq] at t; exact t) (n4 7 (by decide) (by decide))) (fun t => ?_)
  rw [hqq]
  show wp (if (0 : Int) = 0 then _ else _) _
  rw [if_pos rfl, wp_bd3]
  refine w_takes hN hn hx (h.wd (a := 8) (by decide) rfl) (fun t => absurd (by rw [hqq] at t; exact t) (n4 8 (by decide) (by decide))) (fun t => ?_)
  rw [hqq]
  show wp (if (0 : Int) = 0 then _ else _) _
  rw [if_pos rfl, wp_bd3]
  refine w_takes hN hn hx (h.wd (a := 9) (by decide) rfl) (fun t => absurd (by rw [hqq] at t; exact t) (n4 9 (by decide) (by decide))) (fun t => ?_)
  rw [hqq]
  show wp (if (0 : Int) = 0 then _ else _) _
  rw [if_pos rfl, wp_bd6]
  unfold iM_numberPart
  rw [wp_bd5]
  refine w_number hN h.hT hn hx ?_ ?_
  · rw [hqq]
    intro t
    obtain ⟨t1, t2, t3, t4⟩ := tN_ok t
    have nx := nx t
    have s0 := tS_le (T := C.T) (n := C.n) (q := q) (by omega)
    have s1 := s0.2.2 t1.1
    have s2 := s0.2.1
    have s3 : tS C.T C.n q ≤ tSk C.T C.n (tS C.T C.n q) := lR_ge
    have s4 : tSk C.T C.n (tS C.T C.n q) ≤ C.n := lR_le s2
    generalize dV C.T q (tS C.T C.n q - q) = V at *
    generalize tS C.T C.n q = e1 at *
    generalize hq1 : tSk C.T C.n e1 = q1 at *
    have b66 : ∀ (u : Int) (a : Nat) (e3 : Int) (q2 : Nat), (u = 240 ∨ u = 12 ∨ u = 1) → a ≤ C.n → tSk C.T C.n a = q2 → q1 ≤ q2 → un C.T C.n q1 e1 u q2 e3 → wp (iM_numberPart_b66 C.N C.n (C.w 3) (C.w 1) (C.w 2) C.T V u a 0 bp s e3 v) (fun r => wp (some (r.1, r.2.1, r.2.2.1, r.2.2.2.1, r.2.2.2.2.1, o, w, r.2.2.2.2.2, k)) (RAg C m)) := fun u a e3 q2 hu ha haq hq2 hun => by
      have hv1 : 0 ≤ V * u ∧ V * u ≤ 23999760 := by
        rcases hu with g | g | g
        · rw [g]
          omega
        · rw [g]
          omega
        · rw [g]
          omega
      unfold iM_numberPart_b66
      rw [wp_gd, wp_gd, wp_bd2]
      refine ⟨jr_iff.mpr (by omega), jr_iff.mpr (by omega), w_code hv (by omega) (fun v2 h2 => ?_)⟩
      rw [wp_some, wp_some]
      exact ra_b hN (nx u q2 e3 hun) hn ha haq (by omega) h2 hw hk
    show wp (if (0 : Int) = 0 then _ else _) _
    rw [if_pos rfl, wp_bd3]
    have un3 : tW C.T C.n 3 q1 e1 → ¬ tW C.T C.n 1 q1 e1 ∧ ¬ tW C.T C.n 2 q1 e1 := fun g => ⟨fun g2 => absurd (tW_l g g2) (by decide), fun g2 => absurd (tW_l g g2) (by decide)⟩
    have aft : ∀ a, tW C.T C.n a q1 e1 → tS C.T C.n q1 ≤ C.n ∧ q1 ≤ tSk C.T C.n (tS C.T C.n q1) := fun a g => by
      have z0 := tS_le (T := C.T) (n := C.n) (q := q1) s4
      have z1 : tS C.T C.n q1 ≤ tSk C.T C.n (tS C.T C.n q1) := lR_ge
      exact ⟨z0.2.1, by omega⟩
    have q11 : tSk C.T C.n q1 = q1 := by rw [← hq1]; exact lR_id
    refine w_takes hN hn s2 (h.wd (a := 3) (by decide) rfl) (fun t => ?_) (fun t => ?_)
    · rw [hq1] at t ⊢
      show wp (if (1 : Int) = 0 then _ else _) _
      rw [if_neg (by decide)]
      exact b66 1 _ _ _ (Or.inr (Or.inr rfl)) (aft 3 t).1 rfl (aft 3 t).2 (Or.inr (Or.inr (Or.inl ⟨t, rfl, rfl, rfl⟩)))
    · rw [hq1] at t ⊢
      show wp (if (0 : Int) = 0 then _ else _) _
      rw [if_pos rfl, wp_bd3]
      refine w_takes hN hn s4 (h.wd (a := 2) (by decide) rfl) (fun t2 => ?_) (fun t2 => ?_)
      · rw [q11] at t2 ⊢
        show wp (if (1 : Int) = 0 then _ else _) _
        rw [if_neg (by decide)]
        exact b66 12 _ _ _ (Or.inr (Or.inl rfl)) (aft 2 t2).1 rfl (aft 2 t2).2 (Or.inr (Or.inl ⟨t2, rfl, rfl, rfl⟩))
      · rw [q11] at t2 ⊢
        show wp (if (0 : Int) = 0 then _ else _) _
        rw [if_pos rfl, wp_bd3]
        refine w_takes hN hn s4 (h.wd (a := 1) (by decide) rfl) (fun t3 => ?_) (fun t3 => ?_)
        · rw [q11] at t3 ⊢
          show wp (if (1 : Int) = 0 then _ else _) _
          rw [if_neg (by decide)]
          exact b66 240 _ _ _ (Or.inl rfl) (aft 1 t3).1 rfl (aft 1 t3).2 (Or.inl ⟨t3, rfl, rfl, rfl⟩)
        · rw [q11] at t3 ⊢
          show wp (if (0 : Int) = 0 then _ else _) _
          rw [if_pos rfl]
          exact b66 1 _ _ _ (Or.inr (Or.inr rfl)) s4 q11 (Nat.le_refl _) (Or.inr (Or.inr (Or.inr ⟨t3, t2, t, rfl, rfl, rfl⟩)))
  · rw [hqq]
    intro kd p t vv y z _ _
    have kn := tN_no t
    show wp (if kd = 0 then _ else _) _
    rw [if_neg (by omega), wp_some, wp_some]
    exact ra_f (hb kd p t) (show kd ≠ 0 by omega) (cod_s hv hL) (by omega)
