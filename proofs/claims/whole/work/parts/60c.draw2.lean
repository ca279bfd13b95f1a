set_option maxHeartbeats 4000000
set_option maxRecDepth 100000
theorem cB_step {v : Nat → Int} {r q : Nat} (h : r + 1 ≤ q) {D : Nat → Int} (hD : D = if r + 1 = q then v else cB v (r + 1) q) : va_up (va_up D (r + 1) (D (r + 1) - 1)) r (D r + cR r) = cB v r q := by
  subst hD
  funext k
  unfold va_up
  by_cases e : r + 1 = q
  · subst e
    simp only [if_true]
    unfold cB
    by_cases h1 : k = r
    · subst h1
      rw [if_pos rfl, if_neg (by omega), if_neg (by omega), if_pos rfl]
    · rw [if_neg h1]
      by_cases h2 : k = r + 1
      · rw [if_pos h2, if_pos h2, h2]
      · rw [if_neg h2, if_neg h2, if_neg (by omega), if_neg h1]
  · simp only [if_neg e]
    unfold cB
    by_cases h1 : k = r
    · subst h1
      rw [if_pos rfl, if_neg (by omega), if_neg (by omega), if_neg (by omega), if_neg (by omega), if_neg (by omega), if_pos rfl]
    · rw [if_neg h1]
      by_cases h2 : k = r + 1
      · subst h2
        simp only [if_neg e, if_neg (show ¬ (r + 1 < r + 1 ∧ r + 1 < q) by omega), if_pos (show r < r + 1 ∧ r + 1 < q by omega), if_true]
      · rw [if_neg h2]
        by_cases h3 : k = q
        · rw [if_pos h3, if_pos h3]
        · rw [if_neg h3, if_neg h3]
          by_cases h4 : r + 1 < k ∧ k < q
          · rw [if_pos h4, if_pos (by omega)]
          · rw [if_neg h4, if_neg h2, if_neg (by omega), if_neg h1]
theorem cD_b {v : Nat → Int} (h : ∀ j, j < 13 → 0 ≤ v j ∧ v j ≤ 120) {r q : Nat} {D : Nat → Int} (hD : D = if r = q then v else cB v r q) (hq : q < 13) (hr : r ≤ q) : ∀ j, j < 13 → -1 ≤ D j ∧ D j ≤ 130 := by
  intro j hj
  subst hD
  have a := h j hj
  by_cases e : r = q
  · rw [if_pos e]
    omega
  · rw [if_neg e]
    unfold cB
    by_cases h1 : j = q
    · rw [if_pos h1]
      omega
    · rw [if_neg h1]
      by_cases h2 : r < j ∧ j < q
      · rw [if_pos h2]
        have b := cR_b j (by omega)
        omega
      · rw [if_neg h2]
        by_cases h3 : j = r
        · rw [if_pos h3]
          have b := cR_b j (by omega)
          omega
        · rw [if_neg h3]
          omega
theorem w_breakInto {N : Nat} (hN : 5000 ≤ N) {p : Nat} (hp : p < 13) {v : Nat → Int} (h : ∀ j, j < 13 → 0 ≤ v j ∧ v j ≤ 120) : wp (iCounters_breakInto N p v) (fun r => (cAb v (12 - p) (p + 1) < 13 → r.1 = ((cAb v (12 - p) (p + 1) - p : Nat) : Int) ∧ r.2 = cB v p (cAb v (12 - p) (p + 1))) ∧ (¬ cAb v (12 - p) (p + 1) < 13 → r.1 = 0 ∧ r.2 = v)) := by
  unfold iCounters_breakInto iCounters_breakInto_b4
  rw [wp_gd]
  refine ⟨jr_iff.mpr (by omega), ?_⟩
  refine wp_zlp1 (fun (k : Nat) (x2 : Int) => ∃ q : Nat, x2 = q ∧ q + k = 13 ∧ p < q ∧ cAb v (13 - q) q = cAb v (12 - p) (p + 1)) ?_ N (12 - p) (p + 1) (by omega) ⟨p + 1, rfl, by omega, by omega, by rw [show 13 - (p + 1) = 12 - p by omega]⟩
  intro self k x2 ⟨q, e1, e2, e3, e4⟩ ih
  subst e1
  have eq : (q : Int).toNat = q := rfl
  unfold iCounters_breakInto_b4_F
  cases k with
  | zero =>
    have : q = 13 := by omega
    subst this
    rw [if_pos (by omega)]
    show wp (iCounters_breakInto_b25 N p ((13 : Nat) : Int) v) _
    unfold iCounters_breakInto_b25
    rw [if_neg (by omega), wp_some, ← e4]
    exact ⟨fun hh => absurd hh (Nat.lt_irrefl 13), fun _ => ⟨rfl, rfl⟩⟩
  | succ k =>
    rw [if_neg (by omega), wp_gd, wp_ite, eq]
    refine ⟨jb_iff.mpr (by omega), fun hz => ?_, fun hnz => ?_⟩
    · rw [wp_gd]
      refine ⟨jr_iff.mpr (by omega), ih k _ (Nat.lt_succ_self k) ⟨q + 1, by omega, by omega, by omega, ?_⟩⟩
      rw [← e4, show 13 - q = (13 - (q + 1)) + 1 by omega]
      conv => rhs; unfold cAb
      rw [if_pos hz]
    · have eq2 : cAb v (12 - p) (p + 1) = q := by
        rw [← e4, show 13 - q = k + 1 by omega]
        unfold cAb
        rw [if_neg hnz]
      rw [eq2]
      show wp (iCounters_breakInto_b25 N p (q : Int) v) _
      unfold iCounters_breakInto_b25 iCounters_breakInto_b35
      rw [if_pos (by omega)]
      refine wp_zlp2 (fun (k : Nat) (x3 : Int) (d : Nat → Int) => ∃ r : Nat, x3 = r ∧ p + k = r ∧ r ≤ q ∧ d = if r = q then v else cB v r q) ?_ N (q - p) q v (by omega) ⟨q, rfl, by omega, Nat.le_refl q, by rw [if_pos rfl]⟩
      intro self2 k2 x3 d ⟨r, f1, f2, f3, f4⟩ ih2
      subst f1
      unfold iCounters_breakInto_b35_F
      cases k2 with
      | zero =>
        have : r = p := by omega
        subst this
        rw [if_pos (by omega), wp_gd, wp_some]
        refine ⟨jr_iff.mpr (by omega), fun _ => ⟨by omega, ?_⟩, fun hh => by omega⟩
        rw [f4, if_neg (by omega)]
      | succ k2 =>
        obtain ⟨r, rfl⟩ : ∃ r', r = r' + 1 := ⟨r - 1, by omega⟩
        have er : ((r + 1 : Nat) : Int).toNat = r + 1 := rfl
        have er1 : (((r + 1 : Nat) : Int) - 1).toNat = r := by omega
        have b1 := cD_b h f4 (by omega) f3 (r + 1) (by omega)
        have b2 := cD_b h f4 (by omega) f3 r (by omega)
        have b3 := cR_b r (by omega)
        have f5 : jc1.getD r 0 = cR r := rfl
        rw [if_neg (by omega)]
        simp only [wp_gd, jb_iff, jr_iff, er, er1, f5, va_up_ne _ _ (show r ≠ r + 1 by omega)]
        refine ⟨by omega, by omega, by omega, by omega, by omega, by omega, by omega, ih2 k2 _ _ (Nat.lt_succ_self k2) ⟨r, by omega, by omega, by omega, ?_⟩⟩
        rw [if_neg (by omega), cB_step (v := v) (q := q) (by omega) f4]
theorem w_take {N : Nat} (hN : 5000 ≤ N) {s : Int} {due l tr : Nat → Int} (h0 : 0 ≤ s) (h1 : s ≤ 1000000000) (hl : ∀ p, p < 13 → 0 ≤ l p ∧ l p ≤ 99) : wp (iCounters_take N s due l tr) (fun r => (cDa (cP s) 13 (va_cpy l tr 0 0 13) 0 = none → r.1 = -1 ∧ r.2.2.1 = l) ∧ (∀ t n, cDa (cP s) 13 (va_cpy l tr 0 0 13) 0 = some (t, n) → r.1 = n ∧ ∀ k, k < 13 → r.2.2.1 k = t k)) := by
  unfold iCounters_take
  rw [wp_bd2]
  refine wp_mono (w_tellPlain hN h0 h1) (fun r ⟨r1, r2⟩ => ?_)
  rw [if_neg (by omega)]
  unfold iCounters_take_b29
  generalize hO : cDa (cP s) 13 (va_cpy l tr 0 0 13) 0 = OUT
  refine wp_zlp3 (fun (k : Nat) (x2 x3 : Int) (d : Nat → Int) => ∃ p : Nat, x3 = p ∧ p + k = 13 ∧ (∀ j, j < 13 → 0 ≤ d j ∧ d j ≤ 120) ∧ 0 ≤ x2 ∧ x2 ≤ 2000 * p ∧ cDa (cP s) k d x2 = OUT) ?_ N 13 0 0 _ (by omega) ⟨0, rfl, rfl, fun j hj => ?_, by omega, by omega, hO⟩
  · intro self k x2 x3 d ⟨p, e1, e2, e3, e4, e5, e6⟩ ih
    subst e1
    have ep : (p : Int).toNat = p := rfl
    unfold iCounters_take_b29_F
    cases k with
    | zero =>
      rw [if_pos (by omega)]
      unfold iCounters_take_b112
      rw [wp_some, ← e6]
      refine ⟨fun h => (by cases h), fun t n h => ?_⟩
      cases h
      refine ⟨rfl, fun k hk => ?_⟩
      show va_cpy d l 0 0 13 k = d k
      rw [va_cpy, if_pos (by omega), Nat.sub_zero, Nat.zero_add]
    | succ k =>
      have c1 := cP_nn h0 p (by omega)
      have c2 := cP_le h0 h1 p (by omega)
      have c3 : r.2 p = cP s p := r2 p (by omega)
      have hpk : 12 - k = p := by omega
      rw [if_neg (by omega)]
      unfold iCounters_take_b38
      refine wp_zlp3 (fun (k2 : Nat) (y2 y4 : Int) (u : Nat → Int) => ∃ i : Nat, y4 = i ∧ i + k2 = 99 ∧ 0 ≤ y2 ∧ y2 ≤ 2000 * p + 13 * i ∧ ((i ≤ u p ∧ (∀ j, j < 13 → 0 ≤ u j ∧ u j ≤ 120) ∧ cDp (cP s p) p (100 - i) u y2 = cDp (cP s p) p 100 d x2) ∨ (u p < cP s p ∧ (∀ j, j < 13 → 0 ≤ u j ∧ u j ≤ 120) ∧ ¬ cAb u (12 - p) (p + 1) < 13 ∧ cDp (cP s p) p 100 d x2 = none))) ?_ N 99 x2 0 d (by omega) ⟨0, rfl, rfl, e4, by omega, Or.inl ⟨by have := e3 p (by omega); omega, e3, rfl⟩⟩
      intro self2 k2 y2 y4 u ⟨i, f1, f2, f3, f4, f5⟩ ih2
      subst f1
      have hend : cP s p ≤ u p → wp (iCounters_take_b74 N s self (fun x2_k3 e5_ => iCounters_take_b112 N s x2_k3 r.2 l e5_) y2 p r.2 l u) (fun r => (OUT = none → r.1 = -1 ∧ r.2.2.1 = l) ∧ (∀ t n, OUT = some (t, n) → r.1 = n ∧ ∀ k, k < 13 → r.2.2.1 k = t k)) := fun hge => by
        rcases f5 with ⟨g1, g2, g3⟩ | ⟨g1, g2, g3⟩
        · unfold iCounters_take_b74
          have a := g2 p (by omega)
          rw [wp_gd, wp_ite, ep, c3]
          refine ⟨jb_iff.mpr (by omega), fun _ => ?_, fun hh => absurd hge hh⟩
          rw [wp_gd, wp_gd]
          refine ⟨jr_iff.mpr (by omega), jr_iff.mpr (by omega), ih k _ _ _ (Nat.lt_succ_self k) ⟨p + 1, by omega, by omega, fun j hj => ?_, f3, by omega, ?_⟩⟩
          · by_cases hj2 : j = p
            · rw [hj2, va_up_self]
              omega
            · rw [va_up_ne _ _ hj2]
              exact g2 j hj
          · rw [← e6]
            conv => rhs; unfold cDa
            rw [hpk, ← g3, show 100 - i = (99 - i) + 1 by omega]
            unfold cDp
            rw [if_pos hge]
        · omega
      have hno : u p < cP s p → OUT = none → wp (iCounters_take_b74 N s self (fun x2_k3 e5_ => iCounters_take_b112 N s x2_k3 r.2 l e5_) y2 p r.2 l u) (fun r => (OUT = none → r.1 = -1 ∧ r.2.2.1 = l) ∧ (∀ t n, OUT = some (t, n) → r.1 = n ∧ ∀ k, k < 13 → r.2.2.1 k = t k)) := fun hlt hn => by
        unfold iCounters_take_b74
        rw [wp_gd, wp_ite, ep, c3]
        refine ⟨jb_iff.mpr (by omega), fun hh => by omega, fun _ => ?_⟩
        rw [wp_some]
        exact ⟨fun _ => ⟨rfl, rfl⟩, fun t n h => by rw [hn] at h; cases h⟩
      have hnone : cDp (cP s p) p 100 d x2 = none → OUT = none := fun h => by
        rw [← e6]
        unfold cDa
        rw [hpk, h]
      unfold iCounters_take_b38_F
      cases k2 with
      | zero =>
        rw [if_pos (by omega)]
        rcases f5 with ⟨g1, g2, g3⟩ | ⟨g1, g2, g3, g4⟩
        · exact hend (by omega)
        · exact hno g1 (hnone g4)
      | succ k2 =>
        rw [if_neg (by omega), wp_gd, wp_ite, ep, c3]
        refine ⟨jb_iff.mpr (by omega), hend, fun hlt => ?_⟩
        rw [wp_bd2]
        have hb : ∀ j, j < 13 → 0 ≤ u j ∧ u j ≤ 120 := by
          rcases f5 with ⟨g1, g2, g3⟩ | ⟨g1, g2, g3⟩ <;> exact g2
        refine wp_mono (w_breakInto hN (by omega) hb) (fun q ⟨q1, q2⟩ => ?_)
        rw [wp_gd, wp_gd]
        obtain ⟨a1, a2, a3, a4⟩ := cAb_spec u (12 - p) (p + 1)
        by_cases hq : cAb u (12 - p) (p + 1) < 13
        · obtain ⟨q3, q4⟩ := q1 hq
          refine ⟨jr_iff.mpr (by omega), jr_iff.mpr (by omega), ih2 k2 _ _ _ (Nat.lt_succ_self k2) ⟨i + 1, by omega, by omega, by omega, by omega, ?_⟩⟩
          rcases f5 with ⟨g1, g2, g3⟩ | ⟨g1, g2, g3, g4⟩
          · refine Or.inl ⟨?_, ?_, ?_⟩
            · rw [q4]
              unfold cB
              rw [if_neg (by omega), if_neg (by omega), if_pos rfl]
              have := cR_b p (by omega)
              omega
            · rw [q4]
              exact cB_b (by omega) hq hb (fun j h3 h4 => a3 j (by omega) h4) (a4 (by omega)) (by omega)
            · rw [← g3, show 100 - i = (100 - (i + 1)) + 1 by omega]
              conv => rhs; unfold cDp
              rw [if_neg hlt, if_pos hq, q4, q3]
          · exact absurd hq g3
        · obtain ⟨q3, q4⟩ := q2 hq
          refine ⟨jr_iff.mpr (by omega), jr_iff.mpr (by omega), ih2 k2 _ _ _ (Nat.lt_succ_self k2) ⟨i + 1, by omega, by omega, by omega, by omega, ?_⟩⟩
          rw [q4]
          refine Or.inr ⟨by omega, hb, hq, ?_⟩
          rcases f5 with ⟨g1, g2, g3⟩ | ⟨g1, g2, g3, g4⟩
          · rw [← g3, show 100 - i = (99 - i) + 1 by omega]
            unfold cDp
            rw [if_neg hlt, if_neg hq]
          · exact g4
  · have a := hl j hj
    rw [va_cpy, if_pos (by omega), Nat.sub_zero, Nat.zero_add]
    omega
theorem w_above {N : Nat} (hN : 5000 ≤ N) {p : Nat} (hp : p < 13) {v : Nat → Int} : wp (iM_above N p v) (fun r => (cAb v (12 - p) (p + 1) < 13 → r = ((cAb v (12 - p) (p + 1) : Nat) : Int)) ∧ (¬ cAb v (12 - p) (p + 1) < 13 → r = -1)) := by
  unfold iM_above iM_above_b4
  rw [wp_gd]
  refine ⟨jr_iff.mpr (by omega), ?_⟩
  refine wp_zlp1 (fun (k : Nat) (x2 : Int) => ∃ q : Nat, x2 = q ∧ q + k = 13 ∧ p < q ∧ cAb v (13 - q) q = cAb v (12 - p) (p + 1)) ?_ N (12 - p) (p + 1) (by omega) ⟨p + 1, rfl, by omega, by omega, by rw [show 13 - (p + 1) = 12 - p by omega]⟩
  intro self k x2 ⟨q, e1, e2, e3, e4⟩ ih
  subst e1
  have eq : (q : Int).toNat = q := rfl
  unfold iM_above_b4_F
  cases k with
  | zero =>
    have : q = 13 := by omega
    subst this
    rw [if_pos (by omega)]
    show wp (iM_above_b25 N p v ((13 : Nat) : Int)) _
    unfold iM_above_b25
    rw [if_pos (by omega), wp_some, ← e4]
    exact ⟨fun hh => absurd hh (Nat.lt_irrefl 13), fun _ => rfl⟩
  | succ k =>
    rw [if_neg (by omega), wp_gd, wp_ite, eq]
    refine ⟨jb_iff.mpr (by omega), fun hz => ?_, fun hnz => ?_⟩
    · rw [wp_gd]
      refine ⟨jr_iff.mpr (by omega), ih k _ (Nat.lt_succ_self k) ⟨q + 1, by omega, by omega, by omega, ?_⟩⟩
      rw [← e4, show 13 - q = (13 - (q + 1)) + 1 by omega]
      conv => rhs; unfold cAb
      rw [if_pos hz]
    · have eq2 : cAb v (12 - p) (p + 1) = q := by
        rw [← e4, show 13 - q = k + 1 by omega]
        unfold cAb
        rw [if_neg hnz]
      rw [eq2]
      show wp (iM_above_b25 N p v (q : Int)) _
      unfold iM_above_b25
      rw [if_neg (by omega), wp_some]
      exact ⟨fun _ => rfl, fun hh => by omega⟩
theorem w_M_draw {N : Nat} (hN : 5000 ≤ N) {s : Int} {l pl ra w : Nat → Int} (hr : ∀ k, k < 12 → ra k = cR k) (h0 : 0 ≤ s) (h1 : s ≤ 1000000000) (hl : ∀ p, p < 13 → 0 ≤ l p ∧ l p ≤ 99) : wp (iM_draw N s l pl ra w) (fun r => (cDa (cP s) 13 l 0 = none → r.1 = -1 ∧ ∀ k, k < 13 → r.2.1 k = l k) ∧ (∀ t n, cDa (cP s) 13 l 0 = some (t, n) → r.1 = n ∧ ∀ k, k < 13 → r.2.1 k = t k)) := by
  unfold iM_draw
  rw [wp_bd1, w_isIn]
  refine ⟨fun _ => ?_, fun n => absurd ⟨h0, h1⟩ n⟩
  rw [if_neg (by decide), wp_bd1]
  refine wp_mono (w_worth hN hr hl) (fun v0 hv0 => ?_)
  subst hv0
  have hl2 : ∀ p, p < 13 → 0 ≤ l p ∧ l p ≤ 120 := fun p hp => by
    have := hl p hp
    omega
  rw [wp_ite]
  refine ⟨fun _ => ?_, fun hlt => ?_⟩
  · rw [wp_bd1]
    refine wp_mono (w_plains hN hr h0 h1) (fun pl2 hpl => ?_)
    rw [wp_bd1]
    refine wp_mono (w_works hN) (fun w2 hw2 => ?_)
    suffices H : wp (iM_draw_b37 N s ra l pl2 (fun x2_k5 e6_ => iM_draw_b148 N s ra x2_k5 l pl2 e6_) N 0 0 w2) (fun r => (cDa (cP s) 13 w2 0 = none → r.1 = -1 ∧ ∀ k, k < 13 → r.2.1 k = l k) ∧ (∀ t n, cDa (cP s) 13 w2 0 = some (t, n) → r.1 = n ∧ ∀ k, k < 13 → r.2.1 k = t k)) by
      refine wp_mono H (fun r ⟨r1, r2⟩ => ?_)
      rcases cDa_cg (cP s) 13 w2 l 0 hw2 with ⟨c1, c2⟩ | ⟨t2, u2, n2, c1, c2, c3⟩
      · refine ⟨fun _ => r1 c1, fun t n h => ?_⟩
        rw [c2] at h
        cases h
      · refine ⟨fun h => ?_, fun t n h => ?_⟩
        · rw [c2] at h
          cases h
        · rw [c2] at h
          cases h
          obtain ⟨d1, d2⟩ := r2 _ _ c1
          exact ⟨d1, fun k hk => (d2 k hk).trans (c3 k hk)⟩
    generalize hO : cDa (cP s) 13 w2 0 = OUT
    unfold iM_draw_b37
    refine wp_zlp3 (fun (k : Nat) (x2 x3 : Int) (d : Nat → Int) => ∃ p : Nat, x3 = p ∧ p + k = 13 ∧ (∀ j, j < 13 → 0 ≤ d j ∧ d j ≤ 120) ∧ 0 ≤ x2 ∧ x2 ≤ 2000 * p ∧ cDa (cP s) k d x2 = OUT) ?_ N 13 0 0 _ (by omega) ⟨0, rfl, rfl, fun j hj => by rw [hw2 j hj]; exact hl2 j hj, by omega, by omega, hO⟩
    intro self k x2 x3 d ⟨p, e1, e2, e3, e4, e5, e6⟩ ih
    subst e1
    have ep : (p : Int).toNat = p := rfl
    unfold iM_draw_b37_F
    cases k with
    | zero =>
      rw [if_pos (by omega)]
      show wp (iM_draw_b148 N s ra x2 l pl2 d) _
      unfold iM_draw_b148
      rw [wp_bd1]
      refine wp_mono (w_stays hN) (fun m hm => ?_)
      rw [wp_some, ← e6]
      refine ⟨fun h => (by cases h), fun t n h => ?_⟩
      cases h
      exact ⟨rfl, hm⟩
    | succ k =>
      have c1 := cP_nn h0 p (by omega)
      have c2 := cP_le h0 h1 p (by omega)
      have c3 : pl2 p = cP s p := hpl p (by omega)
      have hpk : 12 - k = p := by omega
      rw [if_neg (by omega)]
      unfold iM_draw_b43
      refine wp_zlp2 (fun (k2 : Nat) (y2 : Int) (u : Nat → Int) => ∃ m : Nat, m = k2 ∧ m ≤ 99 ∧ 0 ≤ y2 ∧ y2 + 13 * m ≤ 2000 * p + 13 * 99 ∧ cP s p - u p ≤ m ∧ (∀ j, j < 13 → 0 ≤ u j ∧ u j ≤ 120) ∧ cDp (cP s p) p (m + 1) u y2 = cDp (cP s p) p 100 d x2) ?_ N 99 x2 d (by omega) ⟨99, rfl, by omega, e4, by omega, by have := e3 p (by omega); omega, e3, rfl⟩
      intro self2 k2 y2 u ⟨m, f1, f2, f3, f4, f5, f6, f7⟩ ih2
      subst f1
      unfold iM_draw_b43_F
      rw [wp_gd, wp_ite, ep, c3]
      refine ⟨jb_iff.mpr (by omega), fun hge => ?_, fun hlt => ?_⟩
      · show wp (iM_draw_b127 N s ra self _ y2 p l pl2 u) _
        unfold iM_draw_b127
        have a := f6 p (by omega)
        simp only [wp_gd, jb_iff, jr_iff, ep, c3]
        refine ⟨by omega, by omega, by omega, ih k _ _ _ (Nat.lt_succ_self k) ⟨p + 1, by omega, by omega, fun j hj => ?_, f3, by omega, ?_⟩⟩
        · by_cases hj2 : j = p
          · rw [hj2, va_up_self]
            omega
          · rw [va_up_ne _ _ hj2]
            exact f6 j hj
        · rw [← e6]
          conv => rhs; unfold cDa
          rw [hpk, ← f7]
          unfold cDp
          rw [if_pos hge]
      · rw [wp_bd1]
        refine wp_mono (w_above hN (p := p) (by omega)) (fun q ⟨q1, q2⟩ => ?_)
        obtain ⟨a1, a2, a3, a4⟩ := cAb_spec u (12 - p) (p + 1)
        obtain ⟨m, rfl⟩ : ∃ m', m = m' + 1 := ⟨m - 1, by omega⟩
        by_cases hq : cAb u (12 - p) (p + 1) < 13
        · have q3 := q1 hq
          have q4 : cDp (cP s p) p (m + 1) (cB u p (cAb u (12 - p) (p + 1))) (y2 + ((cAb u (12 - p) (p + 1) - p : Nat) : Int)) = cDp (cP s p) p 100 d x2 := by
            rw [← f7]
            conv => rhs; unfold cDp
            rw [if_neg hlt, if_pos hq]
          have q5 := cB_b (t := u) (p := p) (by omega) hq f6 (fun j h3 h4 => a3 j (by omega) h4) (a4 (by omega)) (by omega)
          have q6 : u p + 2 ≤ cB u p (cAb u (12 - p) (p + 1)) p := by
            unfold cB
            rw [if_neg (by omega), if_neg (by omega), if_pos rfl]
            have := cR_b p (by omega)
            omega
          generalize hQ : cAb u (12 - p) (p + 1) = Q at *
          subst q3
          rw [if_neg (show ¬ (Q : Int) = -1 by omega)]
          unfold iM_draw_b77
          refine wp_zlp3 (fun (k : Nat) (z2 z3 : Int) (dd : Nat → Int) => ∃ r : Nat, z3 = r ∧ p + k = r ∧ r ≤ Q ∧ z2 = y2 + Q - r ∧ dd = if r = Q then u else cB u r Q) ?_ N (Q - p) y2 Q u (by omega) ⟨Q, rfl, by omega, Nat.le_refl Q, by omega, by rw [if_pos rfl]⟩
          intro self3 k3 z2 z3 dd ⟨r, g1, g2, g3, g4, g5⟩ ih3
          subst g1
          unfold iM_draw_b77_F
          cases k3 with
          | zero =>
            have : r = p := by omega
            subst this
            rw [if_pos (by omega)]
            show wp (iM_draw_b124 N s ra self2 _ z2 r l pl2 dd) _
            unfold iM_draw_b124
            rw [if_neg (by omega)] at g5
            subst g5
            exact ih2 m _ _ (Nat.lt_succ_self m) ⟨m, rfl, by omega, by omega, by omega, by omega, q5, by rw [← q4, g4, show y2 + Q - r = y2 + ((Q - r : Nat) : Int) by omega]⟩
          | succ k3 =>
            obtain ⟨r, rfl⟩ : ∃ r', r = r' + 1 := ⟨r - 1, by omega⟩
            have er : ((r + 1 : Nat) : Int).toNat = r + 1 := rfl
            have er1 : (((r + 1 : Nat) : Int) - 1).toNat = r := by omega
            have b1 := cD_b f6 g5 hq g3 (r + 1) (by omega)
            have b2 := cD_b f6 g5 hq g3 r (by omega)
            have b3 := cR_b r (by omega)
            rw [if_neg (by omega)]
            simp only [wp_gd, jb_iff, jr_iff, er, er1, hr r (by omega), va_up_ne _ _ (show r ≠ r + 1 by omega)]
            refine ⟨by omega, by omega, by omega, by omega, by omega, by omega, by omega, by omega, ih3 k3 _ _ _ (Nat.lt_succ_self k3) ⟨r, by omega, by omega, by omega, by omega, ?_⟩⟩
            rw [if_neg (by omega), cB_step (v := u) (q := Q) (by omega) g5]
        · have q3 := q2 hq
          subst q3
          rw [if_pos rfl, wp_some, ← e6]
          have hn : cDa (cP s) (k + 1) d x2 = none := by
            unfold cDa
            rw [hpk, ← f7]
            unfold cDp
            rw [if_neg hlt, if_neg hq]
          rw [hn]
          exact ⟨fun _ => ⟨rfl, fun k _ => rfl⟩, fun t n h => (by cases h)⟩
  · rw [wp_some]
    refine ⟨fun _ => ⟨rfl, fun k _ => rfl⟩, fun t n h => ?_⟩
    obtain ⟨a1, a2⟩ := cDa_ok (due := cP s) (fun j hj => ⟨cP_nn h0 j hj, cP_le h0 h1 j hj⟩) 13 l 0 t n (Nat.le_refl 13) hl2 h
    have a3 := cV_P s 13 (Nat.le_refl 13)
    have a4 := cV_nn (fun j hj => (a1 j hj).1) 13 (Nat.le_refl 13)
    have a5 : cRest s (13 - 13) = s := rfl
    have a6 : cV (cP s) (13 - 13) = 0 := rfl
    omega
