set_option maxHeartbeats 4000000
set_option maxRecDepth 100000
/-! the Hungarian method: stages, turning over, solving -/
def hS (C : Nat → Nat → Int) (u v p : Nat → Int) (m : Nat) : Prop :=
  (∀ r j, 1 ≤ r → r ≤ m → 1 ≤ j → j ≤ 20 → u r + v j ≤ C r j) ∧
  (∀ j, 1 ≤ j → j ≤ 20 → p j = 0 ∨ (1 ≤ p j ∧ p j ≤ m ∧ u (p j).toNat + v j = C (p j).toNat j)) ∧
  (∀ j, 1 ≤ j → j ≤ 20 → v j ≤ 0 ∧ (p j = 0 → v j = 0)) ∧
  (∀ j k, 1 ≤ j → j ≤ 20 → 1 ≤ k → k ≤ 20 → p j ≠ 0 → p j = p k → j = k) ∧
  (∀ r : Nat, 1 ≤ r → r ≤ m → ∃ j, 1 ≤ j ∧ j ≤ 20 ∧ p j = r) ∧
  (∀ r, m < r → r ≤ 10 → u r = 0) ∧ u 0 = 0 ∧
  (0 ≤ v 0 ∧ v 0 ≤ 130000000000000 * (m : Nat))
theorem w_freeCol {N : Nat} (hN : 5000 ≤ N) {C : Nat → Nat → Int} {i : Nat} {w v g R p u : Nat → Int} (hi : 1 ≤ i ∧ i ≤ 10) (hC : hK C) (h : hS C u v p (i - 1)) : wp (iMatcher_freeColumnFor N i w v C g R p u) (fun r => ∃ t j0 : Nat, 1 ≤ t ∧ t ≤ 10 ∧ r.1 = j0 ∧ va_up p 0 i j0 = 0 ∧ r.2.2.2.2.2.1 = va_up p 0 i ∧ hT C i (v 0) (va_up p 0 i) t j0 r.2.1 r.2.2.1 r.2.2.2.1 r.2.2.2.2.1 r.2.2.2.2.2.2) := by
  obtain ⟨s1, s2, s3, s4, s5, s6, s7, s8⟩ := h
  unfold iMatcher_freeColumnFor iMatcher_freeColumnFor_b12
  refine wp_zlp2 (fun (k : Nat) (x2 : Int) (R : Nat → Int) => ∃ j : Nat, x2 = j ∧ j + k = 21 ∧ ∀ q, q < j → R q = 0) ?_ N 21 0 R (by omega) ⟨0, rfl, rfl, fun q h => by omega⟩
  intro self k x2 R ⟨j, e1, e2, e3⟩ ih
  subst e1
  have ej : (j : Int).toNat = j := rfl
  unfold iMatcher_freeColumnFor_b12_F
  cases k with
  | succ k =>
    rw [if_neg (by omega), wp_gd, wp_gd, ej]
    refine ⟨jb_iff.mpr (by omega), jr_iff.mpr (by omega), ih k _ _ (Nat.lt_succ_self k) ⟨j + 1, by omega, by omega, fun q hq => ?_⟩⟩
    by_cases e : q = j
    · rw [e, va_up_self]
    · rw [va_up_ne _ _ e]
      exact e3 q (by omega)
  | zero =>
    rw [if_pos (by omega)]
    show wp (iMatcher_freeColumnFor_b31 N i C w v (fun _ => 1152921504606846976) R p u) _
    unfold iMatcher_freeColumnFor_b31 iMatcher_freeColumnFor_b42
    have p0 : va_up p 0 (i : Int) 0 = i := va_up_self _ _ _
    have pj : ∀ j, 1 ≤ j → va_up p 0 (i : Int) j = p j := fun j hj => va_up_ne _ _ (by omega)
    have T0 : hT C i (v 0) (va_up p 0 i) 0 0 w v (fun _ => 1152921504606846976) R u := by
      refine ⟨p0, fun j a b => ?_, fun j k hj hk hne he => ?_, fun r a b => ?_, fun j hj hr => absurd (e3 j (by omega)) hr, ?_, fun r j a b c d => s1 r j a (by omega) c d, fun ht => by omega, fun j a b hne => ?_, fun j a b => ?_, ⟨fun r a b => s6 r (by omega) b, s7, fun _ => s6 i (by omega) (by omega)⟩, ⟨?_, ?_⟩, fun _ => ⟨rfl, fun j hj => e3 j (by omega), fun _ => rfl⟩, fun ht => by omega, fun ht => by omega, fun j a b hr c hc hrc => absurd (e3 c (by omega)) hrc, fun j a b hr => absurd (e3 j (by omega)) hr, ⟨fun _ => 0, fun j hj hr => absurd (e3 j (by omega)) hr, fun j a b hr => absurd (e3 j (by omega)) hr⟩⟩
      · rw [pj j a]
        rcases s2 j a b with x | ⟨x, y, _⟩
        · exact Or.inl x
        · exact Or.inr ⟨x, by omega⟩
      · have rng : ∀ q, 1 ≤ q → q ≤ 20 → p q ≠ 0 → p q + 1 ≤ i := fun q a b hq => by
          rcases s2 q a b with x | ⟨x, y, _⟩
          · exact absurd x hq
          · omega
        by_cases j0 : j = 0
        · subst j0
          by_cases k0 : k = 0
          · exact k0.symm
          · rw [p0, pj k (by omega)] at he
            have := rng k (by omega) (by omega) (by omega)
            omega
        · by_cases k0 : k = 0
          · subst k0
            rw [p0, pj j (by omega)] at he
            have := rng j (by omega) (by omega) (by omega)
            omega
          · rw [pj j (by omega)] at hne he
            rw [pj k (by omega)] at he
            exact s4 j k (by omega) (by omega) (by omega) (by omega) hne he
      · obtain ⟨j, x, y, z⟩ := s5 r a (by omega)
        exact ⟨j, x, y, by rw [pj j x]; exact z⟩
      · rw [hCn_cg (g := fun _ => 0) 21 (fun q hq => by rw [e3 q (by omega)])]
        rfl
      · rw [pj j a] at hne ⊢
        rcases s2 j a b with x | ⟨x, y, z⟩
        · exact absurd x hne
        · exact z
      · rw [pj j a]
        exact s3 j a b
      · rw [s6 i (by omega) (by omega)]
        omega
      · rw [s6 i (by omega) (by omega)]
        omega
    refine wp_zlp7 (fun (k : Nat) (x2 x3 : Int) (w2 v2 g2 R2 u2 : Nat → Int) => ∃ t j0 : Nat, x2 = j0 ∧ x3 = t ∧ t + k = 10 ∧ hT C i (v 0) (va_up p 0 i) t j0 w2 v2 g2 R2 u2) ?_ N 10 0 0 w v _ R u (by omega) ⟨0, 0, rfl, rfl, rfl, T0⟩
    intro self2 k x2 x3 w2 v2 g2 R2 u2 ⟨t, j0, f1, f2, f3, f4⟩ ih2
    subst f1
    subst f2
    have ej0 : (j0 : Int).toNat = j0 := rfl
    have hj0 : j0 < 21 := by
      obtain ⟨_, _, _, _, _, _, _, _, _, _, _, _, h13, h14, _⟩ := f4
      by_cases ht : t = 0
      · have := (h13 ht).1
        omega
      · have := (h14 (by omega)).1
        omega
    unfold iMatcher_freeColumnFor_b42_F
    rw [if_neg (by omega), wp_gd, wp_ite, ej0]
    refine ⟨jb_iff.mpr (by omega), fun hz => ?_, fun hnz => ?_⟩
    · rw [wp_some]
      refine ⟨t, j0, ?_, by omega, rfl, hz, rfl, f4⟩
      by_cases ht : t = 0
      · obtain ⟨_, _, _, _, _, _, _, _, _, _, _, _, h13, _⟩ := f4
        rw [(h13 ht).1, p0] at hz
        omega
      · omega
    · obtain ⟨g1, g3⟩ := w_step hN hi hC (by omega) f4 hnz
      rw [wp_bd3]
      refine wp_mono g3 (fun r ⟨n, n1, n2, n3⟩ => ?_)
      have en : r.1.toNat = n := by omega
      rw [wp_gd, wp_bd3, en]
      refine ⟨jb_iff.mpr (by omega), wp_mono n3 (fun q hq => ?_)⟩
      rw [wp_gd]
      exact ⟨jr_iff.mpr (by omega), ih2 (k - 1) _ _ _ _ _ _ _ (by omega) ⟨t + 1, n, n1, by omega, by omega, hq⟩⟩
theorem w_turn {N : Nat} (hN : 5000 ≤ N) {C : Nat → Nat → Int} {i t j0 : Nat} {z : Int} {p w v g R u : Nat → Int} (hi : 1 ≤ i ∧ i ≤ 10) (hC : hK C) (hz : 0 ≤ z ∧ z ≤ 130000000000000 * (i - 1 : Nat)) (ht : 1 ≤ t ∧ t ≤ 10) (h : hT C i z p t j0 w v g R u) (hp : p j0 = 0) : wp (iMatcher_turnOver N j0 w p) (fun r => hS C u v r i) := by
  obtain ⟨bu, bv, bv0, bv1⟩ := hT_bd hi hC (by omega) h
  obtain ⟨h1, h2, h3, h4, h5, h6, h7, h8, h9, h10, h11, h12, h13, h14, h15, h16, h17, rk, h18, h19⟩ := h
  obtain ⟨a14, b14, c14, d14⟩ := h14 ht.1
  have nR : ∀ c, R c ≠ 0 → c ≠ j0 := fun c hr e => hr (by rw [e]; exact b14)
  -- one step back along the way
  have back : ∀ x, 1 ≤ x → x ≤ 20 → R x ≠ 0 ∨ x = j0 → ∃ c : Nat, c < 21 ∧ w x = c ∧ R c ≠ 0 ∧ va_up rk j0 t c < va_up rk j0 t x ∧ u (p c).toNat + v x = C (p c).toNat x := fun x a b hx => by
    rcases hx with hx | hx
    · obtain ⟨c, c1, c2, c3, c4⟩ := h17 x a b hx
      have ec : (w x).toNat = c := by omega
      have r1 := h19 x a b hx
      rw [ec] at r1
      refine ⟨c, c1, c2, c3, ?_, c4⟩
      rw [va_up_ne _ _ (nR c c3), va_up_ne _ _ (nR x hx)]
      exact r1
    · subst hx
      obtain ⟨c, c1, c2, c3, c4⟩ := h15 ht.1 x a b b14
      refine ⟨c, c1, c2, c3, ?_, by omega⟩
      rw [va_up_self, va_up_ne _ _ (nR c c3)]
      exact h18 c c1 c3
  have pr : ∀ c, c < 21 → p c ≠ 0 → 1 ≤ p c ∧ p c ≤ i := fun c hc hpc => by
    by_cases e : c = 0
    · rw [e, h1]
      omega
    · rcases h2 c (by omega) (by omega) with x | x
      · exact absurd x hpc
      · omega
  unfold iMatcher_turnOver iMatcher_turnOver_b4
  refine wp_zlp3 (fun (k : Nat) (x2 x3 : Int) (q : Nat → Int) => ∃ x s : Nat, x2 = x ∧ x3 = s ∧ s + k = 11 ∧ (x = 0 ∨ (va_up rk j0 t x < k ∧ 1 ≤ x ∧ x ≤ 20 ∧ (R x ≠ 0 ∨ x = j0))) ∧ q 0 = i ∧ (∀ j, j < 21 → j ≠ x → q j = 0 ∨ (1 ≤ q j ∧ q j ≤ i)) ∧ (∀ j l, j < 21 → l < 21 → j ≠ x → l ≠ x → q j ≠ 0 → q j = q l → j = l) ∧ (∀ r : Nat, 1 ≤ r → r ≤ i → ∃ j, j < 21 ∧ j ≠ x ∧ q j = r) ∧ (∀ j, 1 ≤ j → j ≤ 20 → j ≠ x → (q j ≠ 0 → u (q j).toNat + v j = C (q j).toNat j) ∧ (q j = 0 → v j = 0)) ∧ ∀ c, c < 21 → R c ≠ 0 → x ≠ 0 → va_up rk j0 t c < va_up rk j0 t x → q c = p c) ?_ N 11 j0 0 p (by omega) ⟨j0, 0, rfl, rfl, rfl, Or.inr ⟨by rw [va_up_self]; omega, a14.1, a14.2, Or.inr rfl⟩, h1, fun j hj _ => ?_, fun j l hj hl _ _ hne he => h3 j l hj hl hne he, fun r a b => ?_, fun j a b hne => ⟨h9 j a b, (h10 j a b).2⟩, fun c hc hr _ _ => rfl⟩
  · intro self k x2 x3 q ⟨x, s, e1, e2, e3, e4, e5, e6, e7, e8, e9, e10⟩ ih
    subst e1
    subst e2
    have ex : (x : Int).toNat = x := rfl
    unfold iMatcher_turnOver_b4_F
    rw [if_neg (by omega), wp_ite]
    refine ⟨fun hx => ?_, fun hx => ?_⟩
    · have x0 : x = 0 := by omega
      subst x0
      rw [wp_some]
      refine ⟨fun r j a b c d => ?_, fun j a b => ?_, fun j a b => ⟨(h10 j a b).1, (e9 j a b (by omega)).2⟩, fun j l a b c d hne he => e7 j l (by omega) (by omega) (by omega) (by omega) hne he, fun r a b => ?_, fun r a b => h11.1 r a b, h11.2.1, ?_⟩
      · by_cases e : r = i
        · rw [e]
          exact h8 ht.1 j c d
        · exact h7 r j a (by omega) c d
      · rcases e6 j (by omega) (by omega) with y | y
        · exact Or.inl y
        · exact Or.inr ⟨y.1, y.2, (e9 j a b (by omega)).1 (by omega)⟩
      · obtain ⟨j, j1, j2, j3⟩ := e8 r a b
        exact ⟨j, by omega, by omega, j3⟩
      · have := bu i (by omega)
        omega
    · have hxx : va_up rk j0 t x < k ∧ 1 ≤ x ∧ x ≤ 20 ∧ (R x ≠ 0 ∨ x = j0) := by
        rcases e4 with y | y
        · omega
        · exact y
      obtain ⟨y1, y2, y3, y4⟩ := hxx
      obtain ⟨c, c1, c2, c3, c4, c5⟩ := back x y2 y3 y4
      have ec : (w x).toNat = c := by omega
      have qc : q c = p c := e10 c c1 c3 (by omega) c4
      have pc := pr c c1 (h5 c c1 c3)
      have cx : c ≠ x := fun e => by
        rw [e] at c4
        omega
      rw [wp_gd, wp_gd, wp_gd, ex, ec, c2]
      refine ⟨jb_iff.mpr (by omega), jb_iff.mpr (by omega), jr_iff.mpr (by omega), ih (k - 1) _ _ _ (by omega) ⟨c, s + 1, rfl, by omega, by omega, ?_, ?_, fun j hj hne => ?_, fun j l hj hl hn1 hn2 hne he => ?_, fun r a b => ?_, fun j a b hne => ?_, fun c2 hc2 hr2 hc0 hlt => ?_⟩⟩
      · by_cases e : c = 0
        · exact Or.inl e
        · exact Or.inr ⟨by omega, by omega, by omega, Or.inl c3⟩
      · rw [va_up_ne _ _ (by omega)]
        exact e5
      · by_cases e : j = x
        · rw [e, va_up_self, qc]
          exact Or.inr pc
        · rw [va_up_ne _ _ e]
          exact e6 j hj e
      · by_cases e : j = x
        · by_cases e2 : l = x
          · rw [e, e2]
          · rw [e, va_up_self, va_up_ne _ _ e2] at he
            exact absurd (e7 c l c1 hl cx e2 (by omega) he).symm hn2
        · by_cases e2 : l = x
          · rw [e2, va_up_self, va_up_ne _ _ e] at he
            exact absurd (e7 j c hj c1 e cx (by omega) he) hn1
          · rw [va_up_ne _ _ e] at hne he
            rw [va_up_ne _ _ e2] at he
            exact e7 j l hj hl e e2 hne he
      · obtain ⟨j, j1, j2, j3⟩ := e8 r a b
        by_cases e : j = c
        · exact ⟨x, by omega, fun e => cx e.symm, by rw [va_up_self, ← e]; exact j3⟩
        · exact ⟨j, j1, e, by rw [va_up_ne _ _ j2]; exact j3⟩
      · by_cases e : j = x
        · subst e
          rw [va_up_self, qc]
          exact ⟨fun _ => c5, fun e0 => by omega⟩
        · rw [va_up_ne _ _ e]
          exact e9 j a b e
      · rw [va_up_ne _ _ (fun e => by rw [e] at hlt; omega)]
        exact e10 c2 hc2 hr2 (by omega) (by omega)
  · by_cases e : p j = 0
    · exact Or.inl e
    · exact Or.inr (pr j hj e)
  · by_cases e : r = i
    · exact ⟨0, by omega, by omega, by rw [h1, e]⟩
    · obtain ⟨j, x, y, z2⟩ := h4 r a (by omega)
      exact ⟨j, by omega, fun e2 => by rw [e2] at z2; omega, z2⟩
/-- what the matcher says in the end -/
def hM (C : Nat → Nat → Int) (m : Nat → Int) : Prop := ∃ u v p : Nat → Int, hS C u v p 10 ∧ (∀ r, r < 10 → m r = -1 ∨ ∃ j : Nat, 1 ≤ j ∧ j ≤ 10 ∧ m r = (j : Int) - 1 ∧ p j = ((r + 1 : Nat) : Int) ∧ C (r + 1) j ≠ 0) ∧ ∀ r j : Nat, r < 10 → 1 ≤ j → j ≤ 10 → p j = ((r + 1 : Nat) : Int) → C (r + 1) j ≠ 0 → m r = (j : Int) - 1
theorem w_solve {N : Nat} (hN : 5000 ≤ N) {C : Nat → Nat → Int} {w g R m : Nat → Int} (hC : hK C) : wp (iMatcher_solve N w (fun _ => 0) C g R m (fun _ => 0) (fun _ => 0)) (fun r => hM C r.2.2.2.2.1) := by
  unfold iMatcher_solve iMatcher_solve_b2
  refine wp_zlp7 (fun (k : Nat) (x1 : Int) (w v g R p u : Nat → Int) => ∃ i : Nat, x1 = i ∧ 1 ≤ i ∧ i + k = 11 ∧ hS C u v p (i - 1)) ?_ N 10 1 w _ g R _ _ (by omega) ⟨1, rfl, by omega, rfl, fun r j a b => by omega, fun j a b => Or.inl rfl, fun j a b => ⟨Int.le_refl 0, fun _ => rfl⟩, fun j k a b c d hne => absurd rfl hne, fun r a b => by omega, fun r a b => rfl, rfl, Int.le_refl 0, Int.le_refl 0⟩
  intro self k x1 w v g R p u ⟨i, e1, e2, e3, e4⟩ ih
  subst e1
  unfold iMatcher_solve_b2_F
  cases k with
  | succ k =>
    rw [if_neg (by omega), wp_bd7]
    have hv0 := e4.2.2.2.2.2.2.2
    refine wp_mono (w_freeCol hN (by omega) hC e4) (fun r ⟨t, j0, t1, t2, r1, r2, r3, r4⟩ => ?_)
    rw [wp_bd1, r1, r3]
    refine wp_mono (w_turn hN (by omega) hC hv0 ⟨t1, t2⟩ r4 r2) (fun q hq => ?_)
    rw [wp_gd]
    exact ⟨jr_iff.mpr (by omega), ih k _ _ _ _ _ _ _ (Nat.lt_succ_self k) ⟨i + 1, by omega, by omega, by omega, hq⟩⟩
  | zero =>
    have i11 : i = 11 := by omega
    subst i11
    rw [if_pos (by omega)]
    show wp (iMatcher_solve_b23 N C w v g R m p u) _
    unfold iMatcher_solve_b23 iMatcher_solve_b33
    obtain ⟨s1, s2, s3, s4, s5, s6, s7, s8⟩ := e4
    refine wp_zlp2 (fun (k : Nat) (x1 : Int) (m : Nat → Int) => ∃ j : Nat, x1 = j ∧ 1 ≤ j ∧ j + k = 11 ∧ (∀ r, r < 10 → m r = -1 ∨ ∃ j2 : Nat, 1 ≤ j2 ∧ j2 < j ∧ m r = (j2 : Int) - 1 ∧ p j2 = ((r + 1 : Nat) : Int) ∧ C (r + 1) j2 ≠ 0) ∧ ∀ r j2 : Nat, r < 10 → 1 ≤ j2 → j2 < j → p j2 = ((r + 1 : Nat) : Int) → C (r + 1) j2 ≠ 0 → m r = (j2 : Int) - 1) ?_ N 10 1 _ (by omega) ⟨1, rfl, by omega, rfl, fun r hr => Or.inl rfl, fun r j2 hr a b => by omega⟩
    intro self2 k2 x1 m2 ⟨j, f1, f2, f3, f4, f5⟩ ih2
    subst f1
    have ej : (j : Int).toNat = j := rfl
    unfold iMatcher_solve_b33_F
    cases k2 with
    | zero =>
      have j11 : j = 11 := by omega
      subst j11
      rw [if_pos (by omega), wp_some]
      refine ⟨u, v, p, ⟨s1, s2, s3, s4, s5, s6, s7, s8⟩, fun r hr => ?_, fun r j2 hr a b => f5 r j2 hr a (by omega)⟩
      rcases f4 r hr with x | ⟨j2, a, b, c⟩
      · exact Or.inl x
      · exact Or.inr ⟨j2, a, by omega, c⟩
    | succ k2 =>
      have pj : p j = 0 ∨ (1 ≤ p j ∧ p j ≤ 10) := by
        rcases s2 j (by omega) (by omega) with x | x
        · exact Or.inl x
        · exact Or.inr ⟨x.1, by omega⟩
      have skip : (∀ r : Nat, r < 10 → p j = ((r + 1 : Nat) : Int) → C (r + 1) j = 0) → wp (self2 ((j : Int) + 1) m2) (fun r => hM C r.2.2.2.2.1) := fun hs => ih2 k2 _ _ (Nat.lt_succ_self k2) ⟨j + 1, by omega, by omega, by omega, fun r hr => by
        rcases f4 r hr with x | ⟨j2, a, b, c⟩
        · exact Or.inl x
        · exact Or.inr ⟨j2, a, by omega, c⟩, fun r j2 hr a b c d => by
        by_cases e : j2 = j
        · subst e
          exact absurd (hs r hr c) d
        · exact f5 r j2 hr a (by omega) c d⟩
      rw [if_neg (by omega), wp_gd, wp_ite, ej]
      refine ⟨jb_iff.mpr (by omega), fun hle => ?_, fun hgt => ?_⟩
      · rw [wp_gd]
        exact ⟨jr_iff.mpr (by omega), skip (fun r hr hp => by omega)⟩
      · have er : (p j).toNat = (p j - 1).toNat + 1 := by omega
        rw [wp_gd, wp_ite]
        refine ⟨jb_iff.mpr (by omega), fun hz => ?_, fun hnz => ?_⟩
        · rw [wp_gd]
          refine ⟨jr_iff.mpr (by omega), skip (fun r hr hp => ?_)⟩
          rw [show (p j).toNat = r + 1 by omega] at hz
          exact hz
        · rw [wp_gd, wp_gd, wp_gd, wp_gd]
          refine ⟨jr_iff.mpr (by omega), jb_iff.mpr (by omega), jr_iff.mpr (by omega), jr_iff.mpr (by omega), ih2 k2 _ _ (Nat.lt_succ_self k2) ⟨j + 1, by omega, by omega, by omega, fun r hr => ?_, fun r j2 hr a b c d => ?_⟩⟩
          · by_cases e : r = (p j - 1).toNat
            · refine Or.inr ⟨j, f2, by omega, ?_, by omega, ?_⟩
              · rw [e, va_up_self]
              · rw [e, ← er]
                exact hnz
            · rw [va_up_ne _ _ e]
              rcases f4 r hr with x | ⟨j2, a, b, c⟩
              · exact Or.inl x
              · exact Or.inr ⟨j2, a, by omega, c⟩
          · by_cases e : j2 = j
            · subst e
              rw [show r = (p j2 - 1).toNat by omega, va_up_self]
            · rw [va_up_ne _ _ (fun e2 => ?_)]
              · exact f5 r j2 hr a (by omega) c d
              · exact e (s4 j2 j a (by omega) f2 (by omega) (by omega) (by omega))
