set_option maxHeartbeats 4000000
set_option maxRecDepth 100000
/-! the Hungarian method: one stage -/
def hK (C : Nat → Nat → Int) : Prop := (∀ r j, r < 11 → j < 21 → -130000000000000 ≤ C r j ∧ C r j ≤ 0) ∧ ∀ r j, r < 11 → 11 ≤ j → j < 21 → C r j = 0
/-- between the columns and rows while a free column is looked for -/
def hT (C : Nat → Nat → Int) (i : Nat) (z : Int) (p : Nat → Int) (t j0 : Nat) (w v g R u : Nat → Int) : Prop :=
  p 0 = i ∧
  (∀ j, 1 ≤ j → j ≤ 20 → p j = 0 ∨ (1 ≤ p j ∧ p j + 1 ≤ i)) ∧
  (∀ j k, j < 21 → k < 21 → p j ≠ 0 → p j = p k → j = k) ∧
  (∀ r : Nat, 1 ≤ r → r + 1 ≤ i → ∃ j, 1 ≤ j ∧ j ≤ 20 ∧ p j = r) ∧
  (∀ j, j < 21 → R j ≠ 0 → p j ≠ 0) ∧
  hCn R 21 = t ∧
  (∀ r j, 1 ≤ r → r + 1 ≤ i → 1 ≤ j → j ≤ 20 → u r + v j ≤ C r j) ∧
  (1 ≤ t → ∀ j, 1 ≤ j → j ≤ 20 → u i + v j ≤ C i j) ∧
  (∀ j, 1 ≤ j → j ≤ 20 → p j ≠ 0 → u (p j).toNat + v j = C (p j).toNat j) ∧
  (∀ j, 1 ≤ j → j ≤ 20 → v j ≤ 0 ∧ (p j = 0 → v j = 0)) ∧
  ((∀ r, i < r → r ≤ 10 → u r = 0) ∧ u 0 = 0 ∧ (t = 0 → u i = 0)) ∧
  (v 0 = z - u i ∧ -130000000000000 ≤ u i) ∧
  (t = 0 → j0 = 0 ∧ (∀ j, j < 21 → R j = 0) ∧ ∀ j, g j = 1152921504606846976) ∧
  (1 ≤ t → (1 ≤ j0 ∧ j0 ≤ 20) ∧ R j0 = 0 ∧ g j0 = 0 ∧ R 0 ≠ 0) ∧
  (1 ≤ t → ∀ j, 1 ≤ j → j ≤ 20 → R j = 0 → ∃ c : Nat, c < 21 ∧ w j = c ∧ R c ≠ 0 ∧ g j = C (p c).toNat j - u (p c).toNat - v j) ∧
  (∀ j, 1 ≤ j → j ≤ 20 → R j = 0 → ∀ c, c < 21 → R c ≠ 0 → g j ≤ C (p c).toNat j - u (p c).toNat - v j) ∧
  (∀ j, 1 ≤ j → j ≤ 20 → R j ≠ 0 → ∃ c : Nat, c < 21 ∧ w j = c ∧ R c ≠ 0 ∧ u (p c).toNat + v j = C (p c).toNat j) ∧
  ∃ rk : Nat → Nat, (∀ j, j < 21 → R j ≠ 0 → rk j < t) ∧ ∀ j, 1 ≤ j → j ≤ 20 → R j ≠ 0 → rk (w j).toNat < rk j
theorem hT_free {C : Nat → Nat → Int} {i t j0 : Nat} {z : Int} {p w v g R u : Nat → Int} (hi : 1 ≤ i ∧ i ≤ 10) (h : hT C i z p t j0 w v g R u) : ∃ j, 11 ≤ j ∧ j ≤ 20 ∧ p j = 0 := by
  obtain ⟨h1, h2, h3, _⟩ := h
  exact hFree (m := i - 1) (by omega) (fun j a b => (h2 j a b).imp id (fun q => ⟨q.1, by omega⟩)) (fun j q a b c d e f => h3 j q (by omega) (by omega) e f)
theorem hT_bd {C : Nat → Nat → Int} {i t j0 : Nat} {z : Int} {p w v g R u : Nat → Int} (hi : 1 ≤ i ∧ i ≤ 10) (hC : hK C) (hz : 0 ≤ z ∧ z ≤ 1300000000000000) (h : hT C i z p t j0 w v g R u) : (∀ r, r < 11 → -130000000000000 ≤ u r ∧ u r ≤ 0) ∧ (∀ j, 1 ≤ j → j ≤ 20 → -130000000000000 ≤ v j ∧ v j ≤ 0) ∧ 0 ≤ v 0 ∧ v 0 ≤ 2000000000000000 := by
  obtain ⟨jf, f1, f2, f3⟩ := hT_free hi h
  obtain ⟨h1, h2, h3, h4, h5, h6, h7, h8, h9, h10, h11, h12, h13, h14, h15, h16, h17, h18⟩ := h
  have vf := (h10 jf (by omega) f2).2 f3
  have ui : u i ≤ 0 := by
    by_cases ht : t = 0
    · rw [h11.2.2 ht]
      exact Int.le_refl 0
    · have a := h8 (by omega) jf (by omega) f2
      have b := hC.2 i jf (by omega) f1 (by omega)
      omega
  have ub : ∀ r, 1 ≤ r → r + 1 ≤ i → u r ≤ 0 := fun r a b => by
    have c := h7 r jf a b (by omega) f2
    have d := hC.2 r jf (by omega) f1 (by omega)
    omega
  refine ⟨fun r hr => ?_, fun j a b => ?_, by omega, by omega⟩
  · by_cases r0 : r = 0
    · rw [r0, h11.2.1]
      omega
    · by_cases ri : r = i
      · rw [ri]
        omega
      · by_cases rg : i < r
        · rw [h11.1 r rg (by omega)]
          omega
        · obtain ⟨j, a, b, c⟩ := h4 r (by omega) (by omega)
          have d := h9 j a b (by omega)
          have e := (h10 j a b).1
          rw [c] at d
          have ee : ((r : Int)).toNat = r := rfl
          rw [ee] at d
          have f := (hC.1 r j (by omega) (by omega)).1
          have g := ub r (by omega) (by omega)
          omega
  · have e := h10 j a b
    rcases h2 j a b with x | x
    · have := e.2 x
      omega
    · have d := h9 j a b (by omega)
      have f := (hC.1 (p j).toNat j (by omega) (by omega)).1
      have g := ub (p j).toNat (by omega) (by omega)
      omega
/-- one step of the stage -/
theorem w_step {N : Nat} (hN : 5000 ≤ N) {C : Nat → Nat → Int} {i t j0 : Nat} {z : Int} {p w v g R u : Nat → Int} (hi : 1 ≤ i ∧ i ≤ 10) (hC : hK C) (hz : 0 ≤ z ∧ z ≤ 1300000000000000) (h : hT C i z p t j0 w v g R u) (hp : p j0 ≠ 0) : (t + 1 ≤ i) ∧ wp (iMatcher_lookFrom N j0 w v C g (va_up R j0 1) p u) (fun r => ∃ n : Nat, r.1 = n ∧ n < 21 ∧ wp (iMatcher_shiftPrices N (r.2.2 n) v r.2.2 (va_up R j0 1) p u) (fun q => hT C i z p (t + 1) n r.2.1 q.1 q.2.1 (va_up R j0 1) q.2.2)) := by
  obtain ⟨jf, f1, f2, f3⟩ := hT_free hi h
  obtain ⟨bu, bv, bv0, bv1⟩ := hT_bd hi hC hz h
  obtain ⟨h1, h2, h3, h4, h5, h6, h7, h8, h9, h10, h11, h12, h13, h14, h15, h16, h17, rk, h18, h19⟩ := h
  have hj0 : j0 < 21 ∧ R j0 = 0 := by
    by_cases ht : t = 0
    · obtain ⟨a, b, _⟩ := h13 ht
      rw [a]
      exact ⟨by omega, b 0 (by omega)⟩
    · obtain ⟨a, b, _⟩ := h14 (by omega)
      exact ⟨by omega, b⟩
  -- rows of reached columns
  have pr : ∀ c, c < 21 → p c ≠ 0 → 1 ≤ p c ∧ p c ≤ i := fun c hc hpc => by
    by_cases e : c = 0
    · rw [e, h1]
      omega
    · rcases h2 c (by omega) (by omega) with x | x
      · exact absurd x hpc
      · omega
  have R1 : ∀ c, c < 21 → va_up R j0 1 c ≠ 0 → p c ≠ 0 := fun c hc hr => by
    by_cases e : c = j0
    · rw [e]
      exact hp
    · rw [va_up_ne _ _ e] at hr
      exact h5 c hc hr
  have Rj0 : va_up R j0 1 j0 ≠ 0 := by
    rw [va_up_self]
    decide
  have Rof : ∀ c, va_up R j0 1 c = 0 → R c = 0 ∧ c ≠ j0 := fun c hr => by
    by_cases e : c = j0
    · rw [e] at hr
      exact absurd hr Rj0
    · rw [va_up_ne _ _ e] at hr
      exact ⟨hr, e⟩
  have nR : ∀ c, R c ≠ 0 → c ≠ j0 := fun c hr e => hr (by rw [e]; exact hj0.2)
  have Rup : ∀ c, R c ≠ 0 → va_up R j0 1 c ≠ 0 := fun c hr => by
    rw [va_up_ne _ _ (nR c hr)]
    exact hr
  have cnt : hCn (va_up R j0 1) 21 = t + 1 := by
    rw [hCn_up hj0.2 (by decide), if_pos hj0.1, h6]
  have tle : t + 1 ≤ i := by
    rw [← cnt]
    exact hCn_le i _ (fun j hj hr => pr j hj (R1 j hj hr)) (fun j k hj hk hr hr2 he => h3 j k hj hk (R1 j hj hr) he)
  have R0 : va_up R j0 1 0 ≠ 0 := by
    by_cases ht : t = 0
    · rw [← (h13 ht).1]
      exact Rj0
    · exact Rup 0 (h14 (by omega)).2.2.2
  have Rjf : va_up R j0 1 jf = 0 := by
    by_cases e : va_up R j0 1 jf = 0
    · exact e
    · exact absurd f3 (R1 jf (by omega) e)
  have pj0 := pr j0 hj0.1 hp
  have t0 : t = 0 → ∀ j, 1 ≤ j → j ≤ 20 → va_up R j0 1 j = 0 := fun ht j a b => by
    obtain ⟨x, y, _⟩ := h13 ht
    rw [va_up_ne _ _ (by omega)]
    exact y j (by omega)
  refine ⟨tle, wp_mono (w_look hN (i0 := (p j0).toNat) hj0.1 (by omega) (by omega) (fun r hr => by have := bu r hr; omega) (fun j hj => ?_) (fun r j hr hj => by have := hC.1 r j hr hj; omega) ⟨jf, by omega, f2, Rjf⟩) (fun r ⟨n, e1, e2, e3, e4, e5, e6⟩ => ⟨n, e1, by omega, ?_⟩)⟩
  · by_cases e : j = 0
    · rw [e]
      omega
    · have := bv j (by omega) (by omega)
      omega
  -- what the looks tell
  have L15 : ∀ j, 1 ≤ j → j ≤ 20 → va_up R j0 1 j = 0 → ∀ c, c < 21 → va_up R j0 1 c ≠ 0 → r.2.2 j ≤ C (p c).toNat j - u (p c).toNat - v j := fun j a b hr c hc hrc => by
    have x := (e5 j a b hr).1
    have y := jmin_s (g j) (C (p j0).toNat j - u (p j0).toNat - v j)
    by_cases e : c = j0
    · rw [e]
      omega
    · rw [va_up_ne _ _ e] at hrc
      have := h16 j a b (Rof j hr).1 c hc hrc
      omega
  have L14 : ∀ j, 1 ≤ j → j ≤ 20 → va_up R j0 1 j = 0 → ∃ c : Nat, c < 21 ∧ r.2.1 j = c ∧ va_up R j0 1 c ≠ 0 ∧ r.2.2 j = C (p c).toNat j - u (p c).toNat - v j := fun j a b hr => by
    obtain ⟨x, y, _⟩ := e5 j a b hr
    by_cases hlt : C (p j0).toNat j - u (p j0).toNat - v j < g j
    · rw [if_pos hlt] at y
      exact ⟨j0, hj0.1, y, Rj0, by rw [x, jmin_gt (by omega)]⟩
    · rw [if_neg hlt] at y
      have ht : 1 ≤ t := by
        by_cases ht : t = 0
        · have := (h13 ht).2.2 j
          have a1 := (hC.1 (p j0).toNat j (by omega) (by omega)).2
          have a2 := bu (p j0).toNat (by omega)
          have a3 := bv j a b
          omega
        · omega
      obtain ⟨c, c1, c2, c3, c4⟩ := h15 ht j a b (Rof j hr).1
      exact ⟨c, c1, y.trans c2, Rup c c3, by rw [x, jmin_le (by omega)]; exact c4⟩
  -- the shift
  have bg : ∀ j, 1 ≤ j → j ≤ 20 → va_up R j0 1 j = 0 → -130000000000000 ≤ r.2.2 j ∧ r.2.2 j ≤ 260000000000000 := fun j a b hr => by
    obtain ⟨c, c1, c2, c3, c4⟩ := L14 j a b hr
    have pc := pr c c1 (R1 c c1 c3)
    have a1 := hC.1 (p c).toNat j (by omega) (by omega)
    have a2 := bu (p c).toNat (by omega)
    have a3 := bv j a b
    omega
  have dn := bg n e2 e3 e4
  have dmin : ∀ j, 1 ≤ j → j ≤ 20 → va_up R j0 1 j = 0 → r.2.2 n ≤ r.2.2 j := fun j a b hr => (e5 j a b hr).2.2
  have d0 : t ≠ 0 → 0 ≤ r.2.2 n := fun ht => by
    obtain ⟨c, c1, c2, c3, c4⟩ := L14 n e2 e3 e4
    have pc := pr c c1 (R1 c c1 c3)
    by_cases e : (p c).toNat = i
    · have := h8 (by omega) n e2 e3
      rw [e] at c4
      omega
    · have := h7 (p c).toNat n (by omega) (by omega) e2 e3
      omega
  refine wp_mono (w_shift hN (by omega) (fun r hr => by have := bu r hr; omega) (fun j hj => ?_) (fun j hj hr => ?_) (fun j hj hr => ?_) (fun j k hj hk hr hr2 he => h3 j k hj hk (R1 j hj hr) he)) (fun q ⟨q1, q2, q3⟩ => ?_)
  · by_cases e : j = 0
    · rw [e]
      omega
    · have := bv j (by omega) (by omega)
      omega
  · by_cases e : j = 0
    · rw [e] at hr
      exact absurd hr R0
    · have := bg j (by omega) (by omega) hr
      omega
  · have := pr j hj (R1 j hj hr)
    omega
  -- rows: reached ones are shifted, the others not
  have urow : ∀ c, c < 21 → va_up R j0 1 c ≠ 0 → q.2.2 (p c).toNat = u (p c).toNat + r.2.2 n := fun c hc hr => q2 c hc hr
  have uoth : ∀ c, c < 21 → p c ≠ 0 → va_up R j0 1 c = 0 → q.2.2 (p c).toNat = u (p c).toNat := fun c hc hpc hr => q3 _ (fun k hk hrk he => by
    have a := pr c hc hpc
    have b := pr k hk (R1 k hk hrk)
    have := h3 k c hk hc (R1 k hk hrk) (by omega)
    rw [this] at hrk
    exact hrk hr)
  have ui : q.2.2 i = u i + r.2.2 n := by
    have := urow 0 (by omega) R0
    rw [h1] at this
    exact this
  have ufar : ∀ r2, (∀ j, j < 21 → va_up R j0 1 j ≠ 0 → (p j).toNat ≠ r2) → q.2.2 r2 = u r2 := q3
  have vr : ∀ j, j < 21 → va_up R j0 1 j ≠ 0 → q.1 j = v j - r.2.2 n := fun j hj hr => (q1 j hj).1 hr
  have vu : ∀ j, j < 21 → va_up R j0 1 j = 0 → q.1 j = v j ∧ q.2.1 j = r.2.2 j - r.2.2 n := fun j hj hr => (q1 j hj).2 hr
  refine ⟨h1, h2, h3, h4, R1, cnt, fun r1 j a b c d => ?_, fun _ j c d => ?_, fun j c d hpj => ?_, fun j c d => ?_, ⟨fun r1 a b => ?_, ?_, fun ht => by omega⟩, ⟨?_, ?_⟩, fun ht => by omega, fun _ => ⟨⟨e2, e3⟩, e4, ?_, R0⟩, fun _ j c d hr => ?_, fun j c d hr k hk hrk => ?_, fun j c d hr => ?_, ?_⟩
  · -- feasible
    obtain ⟨k, k1, k2, k3⟩ := h4 r1 a b
    have er : (p k).toNat = r1 := by omega
    have feas := h7 r1 j a b c d
    by_cases hk : va_up R j0 1 k = 0
    · have x := uoth k (by omega) (by omega) hk
      rw [er] at x
      by_cases hj : va_up R j0 1 j = 0
      · have y := (vu j (by omega) hj).1
        omega
      · have y := vr j (by omega) hj
        by_cases ht : t = 0
        · exact absurd (t0 ht j c d) hj
        · have := d0 ht
          omega
    · have x := urow k (by omega) hk
      rw [er] at x
      by_cases hj : va_up R j0 1 j = 0
      · have y := (vu j (by omega) hj).1
        have l := L15 j c d hj k (by omega) hk
        have m := dmin j c d hj
        rw [er] at l
        omega
      · have y := vr j (by omega) hj
        omega
  · -- the new row
    by_cases hj : va_up R j0 1 j = 0
    · have y := (vu j (by omega) hj).1
      have l := L15 j c d hj 0 (by omega) R0
      have m := dmin j c d hj
      rw [h1] at l
      have ei : ((i : Int)).toNat = i := rfl
      rw [ei] at l
      omega
    · have y := vr j (by omega) hj
      by_cases ht : t = 0
      · exact absurd (t0 ht j c d) hj
      · have := h8 (by omega) j c d
        omega
  · -- tight
    have x := h9 j c d hpj
    by_cases hj : va_up R j0 1 j = 0
    · rw [uoth j (by omega) hpj hj, (vu j (by omega) hj).1]
      exact x
    · rw [urow j (by omega) hj, vr j (by omega) hj]
      omega
  · have x := h10 j c d
    by_cases hj : va_up R j0 1 j = 0
    · rw [(vu j (by omega) hj).1]
      exact x
    · rw [vr j (by omega) hj]
      refine ⟨?_, fun hz => absurd hz (R1 j (by omega) hj)⟩
      by_cases ht : t = 0
      · exact absurd (t0 ht j c d) hj
      · have := d0 ht
        omega
  · rw [ufar r1 (fun j hj hr => by have := pr j hj (R1 j hj hr); omega)]
    exact h11.1 r1 a b
  · rw [ufar 0 (fun j hj hr => by have := pr j hj (R1 j hj hr); omega)]
    exact h11.2.1
  · rw [vr 0 (by omega) R0, ui]
    omega
  · rw [ui]
    by_cases ht : t = 0
    · have := h11.2.2 ht
      omega
    · have := d0 ht
      omega
  · rw [(vu n (by omega) e4).2]
    omega
  · obtain ⟨k, k1, k2, k3, k4⟩ := L14 j c d hr
    refine ⟨k, k1, k2, k3, ?_⟩
    rw [(vu j (by omega) hr).2, (vu j (by omega) hr).1, urow k k1 k3]
    omega
  · have l := L15 j c d hr k hk hrk
    rw [(vu j (by omega) hr).2, (vu j (by omega) hr).1, urow k hk hrk]
    omega
  · have w1 : r.2.1 j = w j := e6 j hr
    rw [vr j (by omega) hr]
    by_cases e : j = j0
    · subst e
      have ht : 1 ≤ t := by
        by_cases ht : t = 0
        · have := (h13 ht).1
          omega
        · omega
      obtain ⟨k, k1, k2, k3, k4⟩ := h15 ht j c d hj0.2
      refine ⟨k, k1, w1.trans k2, Rup k k3, ?_⟩
      rw [urow k k1 (Rup k k3)]
      have := (h14 ht).2.2.1
      omega
    · rw [va_up_ne _ _ e] at hr
      obtain ⟨k, k1, k2, k3, k4⟩ := h17 j c d hr
      refine ⟨k, k1, w1.trans k2, Rup k k3, ?_⟩
      rw [urow k k1 (Rup k k3)]
      omega
  · refine ⟨va_up rk j0 t, fun j hj hr => ?_, fun j c d hr => ?_⟩
    · by_cases e : j = j0
      · rw [e, va_up_self]
        omega
      · rw [va_up_ne _ _ e] at hr ⊢
        have := h18 j hj hr
        omega
    · rw [e6 j hr]
      by_cases e : j = j0
      · subst e
        have ht : 1 ≤ t := by
          by_cases ht : t = 0
          · have := (h13 ht).1
            omega
          · omega
        obtain ⟨k, k1, k2, k3, k4⟩ := h15 ht j c d hj0.2
        have ek : (w j).toNat = k := by omega
        rw [ek, va_up_self, va_up_ne _ _ (nR k k3)]
        exact h18 k k1 k3
      · rw [va_up_ne _ _ e] at hr
        obtain ⟨k, k1, k2, k3, k4⟩ := h17 j c d hr
        have ek : (w j).toNat = k := by omega
        have x := h19 j c d hr
        rw [ek] at x ⊢
        rw [va_up_ne _ _ e, va_up_ne _ _ (nR k k3)]
        exact x
