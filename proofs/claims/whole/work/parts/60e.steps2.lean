set_option maxHeartbeats 4000000
set_option maxRecDepth 100000
def cSt (L : Nat → Int) : Nat → Int × Int × Int
  | 0 => (0, 0, 1000000000)
  | p + 1 => (((cSt L p).1 + L p) / cR p, cA (((cSt L p).1 + L p) / cR p) + cG (cSt L p).1 (cSt L p).2.1 (cSt L p).2.2 (cR p * (((cSt L p).1 + L p) / cR p) - L p), cA (((cSt L p).1 + L p) / cR p + 1) + cG (cSt L p).1 (cSt L p).2.1 (cSt L p).2.2 (cR p * (((cSt L p).1 + L p) / cR p + 1) - L p))
def cFw (L : Nat → Int) : Nat → Nat → Int
  | 0, k => if k = 300 then 0 else 100000000
  | p + 1, j => cA ((j : Int) - 300) + cG (cSt L p).1 (cSt L p).2.1 (cSt L p).2.2 (cR p * ((j : Int) - 300) - L p)
theorem cI_all {L : Nat → Int} (h : ∀ q, q < 13 → -99 ≤ L q ∧ L q ≤ 99) : ∀ p, p ≤ 12 → cI p (cSt L p).1 (cSt L p).2.1 (cSt L p).2.2 (cFw L p)
  | 0, _ => cI_0 (fun k hk => rfl)
  | p + 1, hp => cI_next (cI_all h p (by omega)) (h p (by omega)) (cR_b p (by omega)) (by omega) (fun j hj => rfl)
theorem cA_n (x : Int) : cA (-x) = cA x := by
  have a := cA_s x
  have b := cA_s (-x)
  omega
theorem w_cheaper {a x b y : Int} (ha : 0 ≤ a ∧ a ≤ 1000000) (hb : 0 ≤ b ∧ b ≤ 1000000000) (hx : -100000 ≤ x ∧ x ≤ 100000) (hy : -100000 ≤ y ∧ y ≤ 100000) : iCounters_cheaper a x b y = some (jmin (a + cA x) (b + cA y)) := by
  unfold iCounters_cheaper
  have c := cA_s x
  have d := cA_s y
  rw [jabs_cA, jabs_cA, gd, if_pos (jr_iff.mpr (by omega)), gd, if_pos (jr_iff.mpr (by omega)), gd, if_pos (jr_iff.mpr (by omega)), gd, if_pos (jr_iff.mpr (by omega))]
theorem w_fewest {N : Nat} (hN : 5000 ≤ N) {s : Int} {due l : Nat → Int} (h0 : 0 ≤ s) (h1 : s ≤ 1000000000) (hl : ∀ p, p < 13 → 0 ≤ l p ∧ l p ≤ 99) : wp (iCounters_fewestSteps N s due l) (fun r => r.1 = cG (cSt (fun p => l p - cP s p) 12).1 (cSt (fun p => l p - cP s p) 12).2.1 (cSt (fun p => l p - cP s p) 12).2.2 (-(l 12 - cP s 12))) := by
  unfold iCounters_fewestSteps
  rw [wp_bd2]
  refine wp_mono (w_tellPlain hN h0 h1) (fun r ⟨r1, r2⟩ => ?_)
  rw [if_neg (by omega)]
  unfold iCounters_fewestSteps_b21
  generalize hLL : (fun p => l p - cP s p) = L
  have hLp : ∀ p, L p = l p - cP s p := fun p => by rw [← hLL]
  have hLb : ∀ q, q < 13 → -99 ≤ L q ∧ L q ≤ 99 := fun q hq => by
    have a := hl q hq
    have b := cP_nn h0 q hq
    have c := cP_le h0 h1 q hq
    rw [hLp]
    omega
  refine wp_zlp4 (fun (k : Nat) (x2 x3 x4 x5 : Int) => ∃ p : Nat, x5 = p ∧ p + k = 12 ∧ x2 = (cSt L p).1 ∧ x3 = (cSt L p).2.1 ∧ x4 = (cSt L p).2.2) ?_ N 12 0 0 1000000000 0 (by omega) ⟨0, rfl, rfl, rfl, rfl, rfl⟩
  intro self k x2 x3 x4 x5 ⟨p, e1, e2, e3, e4, e5⟩ ih
  subst e1
  have ep : (p : Int).toNat = p := rfl
  unfold iCounters_fewestSteps_b21_F
  obtain ⟨i1, i2, i3, _, _, _⟩ := cI_all hLb p (by omega)
  have lp := hLb p (by omega)
  have hlp := hLp p
  have r2p := r2 p (by omega)
  rw [← e3] at i1
  rw [← e4] at i2
  rw [← e5] at i3
  cases k with
  | zero =>
    have : p = 12 := by omega
    subst this
    rw [if_pos (by omega)]
    show wp (iCounters_fewestSteps_b141 N s l x2 x3 x4 r.2) _
    unfold iCounters_fewestSteps_b141
    simp only [wp_gd, jr_iff, r2p]
    refine ⟨by omega, by omega, by omega, ?_⟩
    rw [wp_bd1, w_cheaper (by omega) (by omega) (by omega) (by omega), wp_some, wp_some]
    show jmin _ _ = cG _ _ _ _
    rw [← e3, ← e4, ← e5, cG, show cP s 12 - l 12 - x2 = -(x2 - -(l 12 - cP s 12)) by omega, show -(x2 - -(l 12 - cP s 12)) - 1 = -(x2 + 1 - -(l 12 - cP s 12)) by omega, cA_n, cA_n]
  | succ k =>
    have b1 := cR_b p (by omega)
    have f5 : jc1.getD p 0 = cR p := rfl
    have eL : x2 - (cP s p - l p) = x2 + L p := by omega
    obtain ⟨j1, j2, j3, _, _, _⟩ := cI_all hLb (p + 1) (by omega)
    have n1 : (cSt L (p + 1)).1 = (x2 + L p) / cR p := by rw [e3]; rfl
    have n2 : (cSt L (p + 1)).2.1 = cA ((x2 + L p) / cR p) + cG x2 x3 x4 (cR p * ((x2 + L p) / cR p) - L p) := by rw [e3, e4, e5]; rfl
    have n3 : (cSt L (p + 1)).2.2 = cA ((x2 + L p) / cR p + 1) + cG x2 x3 x4 (cR p * ((x2 + L p) / cR p + 1) - L p) := by rw [e3, e4, e5]; rfl
    rw [if_neg (by omega)]
    simp only [wp_gd, wp_bd1, jb_iff, jr_iff, ep, f5, r2p, eL]
    refine ⟨by omega, by omega, by omega, by omega, ?_⟩
    rw [w_floorDiv (by omega) (by omega), wp_some]
    have u1 : (x2 + L p) / cR p * cR p ≤ x2 + L p := Int.ediv_mul_le _ (by omega)
    have u2 : x2 + L p < ((x2 + L p) / cR p + 1) * cR p := Int.lt_ediv_add_one_mul_self _ (by omega)
    rw [Int.add_mul, Int.one_mul] at u2
    rw [← n1] at u1 u2 n2 n3 ⊢
    generalize hU : (cSt L (p + 1)).1 = U at *
    rw [Int.mul_comm] at u1 u2
    have eR : cR p * (U + 1) = cR p * U + cR p := by rw [Int.mul_add, Int.mul_one]
    have aU := cA_s U
    have aU1 := cA_s (U + 1)
    have c1 : jmin (x3 + cA (cP s p - l p + cR p * U - x2)) (x4 + cA (cP s p - l p + cR p * U - x2 - 1)) = cG x2 x3 x4 (cR p * U - L p) := by
      rw [cG, show cP s p - l p + cR p * U - x2 = -(x2 - (cR p * U - L p)) by omega, show -(x2 - (cR p * U - L p)) - 1 = -(x2 + 1 - (cR p * U - L p)) by omega, cA_n, cA_n]
    have c2 : jmin (x3 + cA (cP s p - l p + cR p * U - x2 + cR p)) (x4 + cA (cP s p - l p + cR p * U - x2 + cR p - 1)) = cG x2 x3 x4 (cR p * (U + 1) - L p) := by
      rw [cG, eR, show cP s p - l p + cR p * U - x2 + cR p = -(x2 - (cR p * U + cR p - L p)) by omega, show -(x2 - (cR p * U + cR p - L p)) - 1 = -(x2 + 1 - (cR p * U + cR p - L p)) by omega, cA_n, cA_n]
    refine ⟨by omega, by omega, by omega, by omega, ?_⟩
    rw [w_cheaper (by omega) (by omega) (by omega) (by omega), wp_some, c1]
    refine ⟨by omega, by omega, ?_⟩
    rw [w_cheaper (by omega) (by omega) (by omega) (by omega), wp_some, c2]
    simp only [jabs_cA]
    refine ⟨by omega, by omega, by omega, by omega, by omega, by omega, ih k _ _ _ _ (Nat.lt_succ_self k) ⟨p + 1, by omega, by omega, hU.symm, ?_, ?_⟩⟩
    · rw [n2]
      omega
    · rw [n3]
      omega
theorem w_size {x : Int} (h : -2147483648 < x) (h2 : x < 2147483648) : iM_size x = some (cA x) := by
  unfold iM_size cA
  by_cases h3 : 0 ≤ x
  · rw [if_pos h3, if_pos h3]
  · rw [if_neg h3, if_neg h3, gd, if_pos (jr_iff.mpr (by omega))]
/-- the pass over all ways at one place, in the reference -/
theorem w_pass {N : Nat} (hN : 5000 ≤ N) {s : Int} {l ra F pl G0 : Nat → Int} {p : Nat} {low a b L : Int} {Q : R_iM_steps → Prop} {k212 : (Nat → Int) → Option R_iM_steps} (hp : p < 12) (hr : ra p = cR p) (hL : L = l p - pl p) (hLb : -99 ≤ L ∧ L ≤ 99) (hlb : 0 ≤ l p ∧ l p ≤ 99) (hI : cI p low a b F) (hG : ∀ j, j ≤ 600 → G0 j = 100000000) (hk : ∀ G : Nat → Int, (∀ j : Nat, j ≤ 600 → G j = cA ((j : Int) - 300) + cG low a b (cR p * ((j : Int) - 300) - L)) → wp (k212 G) Q) : wp (iM_steps_b86 N s l ra p F pl k212 N 0 G0) Q := by
  obtain ⟨i1, i2, i3, i4, i5, i6⟩ := hI
  have b1 := cR_b p hp
  -- the cost of one way to another
  have hcb : ∀ k j : Nat, k ≤ 600 → j ≤ 600 → -4000 ≤ (L + (k - 300) - cR p * ((j : Int) - 300)) ∧ (L + (k - 300) - cR p * ((j : Int) - 300)) ≤ 3700 ∧ cA (L + (k - 300) - cR p * ((j : Int) - 300)) ≤ 3400 := fun k j hk hj => by
    have m1 : cR p * ((j : Int) - 300) ≤ 3000 := by
      by_cases hj3 : (300 : Int) ≤ j
      · have := Int.mul_le_mul b1.2 (show (j : Int) - 300 ≤ 300 by omega) (by omega) (by omega)
        omega
      · have := Int.mul_nonneg (show 0 ≤ cR p by omega) (show 0 ≤ 300 - (j : Int) by omega)
        rw [Int.mul_sub] at this ⊢
        omega
    have m2 : -3000 ≤ cR p * ((j : Int) - 300) := by
      by_cases hj3 : (300 : Int) ≤ j
      · have := Int.mul_nonneg (show 0 ≤ cR p by omega) (show 0 ≤ (j : Int) - 300 by omega)
        omega
      · have := Int.mul_le_mul b1.2 (show 300 - (j : Int) ≤ 300 by omega) (by omega) (by omega)
        rw [Int.mul_sub] at this ⊢
        omega
    have := cA_s (L + (k - 300) - cR p * ((j : Int) - 300))
    omega
  unfold iM_steps_b86
  refine wp_zlp2 (fun (q : Nat) (x3 : Int) (G : Nat → Int) => ∃ k : Nat, x3 = k ∧ k + q = 601 ∧ (∀ k2 : Nat, k2 < k → F k2 ≠ 100000000 → ∀ j : Nat, j ≤ 600 → G j ≤ F k2 + cA ((j : Int) - 300) + cA (L + (k2 - 300) - cR p * ((j : Int) - 300))) ∧ (∀ j : Nat, j ≤ 600 → G j = 100000000 ∨ ∃ k2 : Nat, k2 < k ∧ F k2 ≠ 100000000 ∧ G j = F k2 + cA ((j : Int) - 300) + cA (L + (k2 - 300) - cR p * ((j : Int) - 300)))) ?_ N 601 0 G0 (by omega) ⟨0, rfl, rfl, fun k2 h => by omega, fun j hj => Or.inl (hG j hj)⟩
  intro self q x3 G ⟨k, e1, e2, e3, e4⟩ ih
  subst e1
  have ek : (k : Int).toNat = k := rfl
  have ep : (p : Int).toNat = p := rfl
  unfold iM_steps_b86_F
  cases q with
  | zero =>
    have hk6 : k = 601 := by omega
    subst hk6
    rw [if_pos (by omega)]
    refine hk G (fun j hj => ?_)
    obtain ⟨k1, c1, c2, c3⟩ := i6 (cR p * ((j : Int) - 300) - L) (by have := hcb 300 j (by omega) hj; omega) (by have := hcb 300 j (by omega) hj; omega)
    have g1 := e3 k1 (by omega) c2 j hj
    have g2 := cA_s (L + (k1 - 300) - cR p * ((j : Int) - 300))
    have g3 := cA_s ((k1 : Int) - 300 - (cR p * ((j : Int) - 300) - L))
    have g5 := cA_s ((j : Int) - 300)
    have g6 := (hcb k1 j c1 hj).2.2
    have g7 := i4 k1 c1
    rcases e4 j hj with h | ⟨k2, d1, d2, d3⟩
    · omega
    · have h5 := i5 k2 (by omega) d2 (cR p * ((j : Int) - 300) - L)
      have g4 := cA_s (L + (k2 - 300) - cR p * ((j : Int) - 300))
      have g8 := cA_s ((k2 : Int) - 300 - (cR p * ((j : Int) - 300) - L))
      omega
  | succ q =>
    rw [if_neg (by omega), wp_gd, wp_ite, ek]
    have cont : ∀ G2 : Nat → Int, (∀ k2 : Nat, k2 < k + 1 → F k2 ≠ 100000000 → ∀ j : Nat, j ≤ 600 → G2 j ≤ F k2 + cA ((j : Int) - 300) + cA (L + (k2 - 300) - cR p * ((j : Int) - 300))) → (∀ j : Nat, j ≤ 600 → G2 j = 100000000 ∨ ∃ k2 : Nat, k2 < k + 1 ∧ F k2 ≠ 100000000 ∧ G2 j = F k2 + cA ((j : Int) - 300) + cA (L + (k2 - 300) - cR p * ((j : Int) - 300))) → wp (iM_steps_b206 N s l ra self k212 p k F G2 pl) Q := fun G2 h1 h2 => by
      unfold iM_steps_b206
      rw [wp_gd]
      exact ⟨jr_iff.mpr (by omega), ih q _ _ (Nat.lt_succ_self q) ⟨k + 1, by omega, by omega, h1, h2⟩⟩
    refine ⟨jb_iff.mpr (by omega), fun hF => cont G (fun k2 h1 h2 j hj => ?_) (fun j hj => ?_), fun hF => ?_⟩
    · have : k2 ≠ k := fun e => h2 (e ▸ hF)
      exact e3 k2 (by omega) h2 j hj
    · rcases e4 j hj with h | ⟨k2, d1, d2, d3⟩
      · exact Or.inl h
      · exact Or.inr ⟨k2, by omega, d2, d3⟩
    · have hFk := i4 k (by omega)
      simp only [wp_gd, jb_iff, jr_iff, ep]
      refine ⟨by omega, by omega, by omega, by omega, ?_⟩
      unfold iM_steps_b133
      refine wp_zlp2 (fun (q : Nat) (x5 : Int) (H : Nat → Int) => ∃ o : Nat, x5 = (o : Int) - 300 ∧ o + q = 601 ∧ (∀ j : Nat, o ≤ j → H j = G j) ∧ (∀ j : Nat, j < o → H j = jmin (G j) (F k + cA ((j : Int) - 300) + cA (L + (k - 300) - cR p * ((j : Int) - 300))))) ?_ N 601 (-300) G (by omega) ⟨0, by omega, rfl, fun j _ => rfl, fun j h => by omega⟩
      intro self2 q2 x5 H ⟨o, f1, f2, f3, f4⟩ ih2
      subst f1
      have eo : ((o : Int) - 300 + 300).toNat = o := by omega
      unfold iM_steps_b133_F
      cases q2 with
      | zero =>
        have : o = 601 := by omega
        subst this
        rw [if_pos (by omega)]
        refine cont H (fun k2 h1 h2 j hj => ?_) (fun j hj => ?_)
        · rw [f4 j (by omega)]
          have m := jmin_s (G j) (F k + cA ((j : Int) - 300) + cA (L + (k - 300) - cR p * ((j : Int) - 300)))
          by_cases hk2 : k2 = k
          · subst hk2
            exact m.2.1
          · have := e3 k2 (by omega) h2 j hj
            omega
        · rw [f4 j (by omega)]
          have m := jmin_s (G j) (F k + cA ((j : Int) - 300) + cA (L + (k - 300) - cR p * ((j : Int) - 300)))
          rcases m.2.2 with h | h
          · rw [h]
            rcases e4 j hj with h2 | ⟨k2, d1, d2, d3⟩
            · exact Or.inl h2
            · exact Or.inr ⟨k2, by omega, d2, d3⟩
          · exact Or.inr ⟨k, by omega, hF, h⟩
      | succ q2 =>
        have hc := hcb k o (by omega) (by omega)
        have a1 := cA_s ((o : Int) - 300)
        have a2 := cA_s (L + (k - 300) - cR p * ((o : Int) - 300))
        have eX : l p + (k : Int) - 300 - pl p - cR p * ((o : Int) - 300) = L + (k - 300) - cR p * ((o : Int) - 300) := by omega
        rw [if_neg (by omega)]
        simp only [wp_gd, wp_bd1, jb_iff, jr_iff, ek, ep, eo, hr]
        refine ⟨by omega, ?_⟩
        rw [w_size (by omega) (by omega), wp_some]
        refine ⟨by omega, by omega, by omega, ?_⟩
        rw [eX, w_size (by omega) (by omega), wp_some]
        simp only [wp_gd, wp_ite, jb_iff, jr_iff, eo]
        have hm : jmin (G o) (F k + cA ((o : Int) - 300) + cA (L + (k - 300) - cR p * ((o : Int) - 300))) = if F k + cA ((o : Int) - 300) + cA (L + (k - 300) - cR p * ((o : Int) - 300)) < G o then F k + cA ((o : Int) - 300) + cA (L + (k - 300) - cR p * ((o : Int) - 300)) else G o := rfl
        refine ⟨by omega, by omega, by omega, by omega, fun hle => ⟨by omega, ih2 q2 _ _ (Nat.lt_succ_self q2) ⟨o + 1, by omega, by omega, fun j hj => f3 j (by omega), fun j hj => ?_⟩⟩, fun hgt => ⟨by omega, ih2 q2 _ _ (Nat.lt_succ_self q2) ⟨o + 1, by omega, by omega, fun j hj => ?_, fun j hj => ?_⟩⟩⟩
        · by_cases hj2 : j = o
          · subst hj2
            have := f3 j (Nat.le_refl j)
            rw [hm, if_neg (by omega), this]
          · exact f4 j (by omega)
        · rw [va_up_ne _ _ (by omega)]
          exact f3 j (by omega)
        · by_cases hj2 : j = o
          · subst hj2
            have := f3 j (Nat.le_refl j)
            rw [va_up_self, hm, if_pos (by omega)]
          · rw [va_up_ne _ _ hj2]
            exact f4 j (by omega)
