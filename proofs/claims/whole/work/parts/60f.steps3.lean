set_option maxHeartbeats 4000000
set_option maxRecDepth 100000
theorem w_M_steps {N : Nat} (hN : 5000 ≤ N) {s : Int} {l pl ra f0 g0 : Nat → Int} (hr : ∀ k, k < 12 → ra k = cR k) (h0 : 0 ≤ s) (h1 : s ≤ 1000000000) (hl : ∀ p, p < 13 → 0 ≤ l p ∧ l p ≤ 99) : wp (iM_steps N s f0 l g0 pl ra) (fun r => r.1 = cG (cSt (fun p => l p - cP s p) 12).1 (cSt (fun p => l p - cP s p) 12).2.1 (cSt (fun p => l p - cP s p) 12).2.2 (-(l 12 - cP s 12))) := by
  unfold iM_steps
  rw [wp_bd1, w_isIn]
  refine ⟨fun _ => ?_, fun n => absurd ⟨h0, h1⟩ n⟩
  rw [if_neg (by decide), wp_bd1]
  refine wp_mono (w_plains hN hr h0 h1) (fun pl2 hpl => ?_)
  generalize hLL : (fun p => l p - cP s p) = L
  have hLp : ∀ p, L p = l p - cP s p := fun p => by rw [← hLL]
  have hLb : ∀ q, q < 13 → -99 ≤ L q ∧ L q ≤ 99 := fun q hq => by
    have a := hl q hq
    have b := cP_nn h0 q hq
    have c := cP_le h0 h1 q hq
    rw [hLp]
    omega
  have hAll := fun p (hp : p ≤ 12) => cI_all hLb p hp
  unfold iM_steps_b21
  refine wp_zlp2 (fun (q : Nat) (x2 : Int) (F : Nat → Int) => ∃ k : Nat, x2 = k ∧ k + q = 601 ∧ ∀ j, j < k → F j = cFw L 0 j) ?_ N 601 0 f0 (by omega) ⟨0, rfl, rfl, fun j hj => by omega⟩
  intro self q x2 F ⟨k, e1, e2, e3⟩ ih
  subst e1
  have ek : (k : Int).toNat = k := rfl
  unfold iM_steps_b21_F
  cases q with
  | succ q =>
    have step : ∀ v : Int, v = cFw L 0 k → wp (iM_steps_b46 N s l ra self (fun v_fewest_k1 => iM_steps_b53 N s l ra v_fewest_k1 g0 pl2) k k v F g0 pl2) (fun r => r.1 = cG (cSt L 12).1 (cSt L 12).2.1 (cSt L 12).2.2 (-(l 12 - cP s 12))) := fun v hv => by
      unfold iM_steps_b46
      rw [wp_gd, wp_gd, ek]
      refine ⟨jb_iff.mpr (by omega), jr_iff.mpr (by omega), ih q _ _ (Nat.lt_succ_self q) ⟨k + 1, by omega, by omega, fun j hj => ?_⟩⟩
      by_cases hj2 : j = k
      · rw [hj2, va_up_self, hv]
      · rw [va_up_ne _ _ hj2]
        exact e3 j (by omega)
    rw [if_neg (by omega), wp_ite]
    refine ⟨fun h => step 0 ?_, fun h => step 100000000 ?_⟩
    · show 0 = if k = 300 then (0 : Int) else 100000000
      rw [if_pos (by omega)]
    · show 100000000 = if k = 300 then (0 : Int) else 100000000
      rw [if_neg (by omega)]
  | zero =>
    rw [if_pos (by omega)]
    show wp (iM_steps_b53 N s l ra F g0 pl2) _
    unfold iM_steps_b53 iM_steps_b55
    refine wp_zlp3 (fun (q : Nat) (x2 : Int) (F G : Nat → Int) => ∃ p : Nat, x2 = p ∧ p + q = 12 ∧ ∀ j, j ≤ 600 → F j = cFw L p j) ?_ N 12 0 F g0 (by omega) ⟨0, rfl, rfl, fun j hj => e3 j (by omega)⟩
    intro self2 q x2 F G ⟨p, f1, f2, f3⟩ ih2
    subst f1
    have ep : (p : Int).toNat = p := rfl
    unfold iM_steps_b55_F
    cases q with
    | zero =>
      have hp12 : p = 12 := by omega
      subst hp12
      rw [if_pos (by omega)]
      show wp (iM_steps_b245 N s l ra F G pl2) _
      unfold iM_steps_b245 iM_steps_b250
      obtain ⟨i1, i2, i3, i4, i5, i6⟩ := hAll 12 (Nat.le_refl 12)
      have l12 := hLb 12 (by omega)
      have hl12 := hLp 12
      have p12 := hpl 12 (by omega)
      have lb12 := hl 12 (by omega)
      have pb12 := cP_nn h0 12 (by omega)
      have pc12 := cP_le h0 h1 12 (by omega)
      refine wp_zlp2 (fun (q : Nat) (x2 x3 : Int) => ∃ k : Nat, x3 = k ∧ k + q = 601 ∧ (∀ k2 : Nat, k2 < k → x2 ≤ F k2 + cA (L 12 + ((k2 : Int) - 300))) ∧ (x2 = 100000000 ∨ ∃ k2 : Nat, k2 < k ∧ x2 = F k2 + cA (L 12 + ((k2 : Int) - 300)))) ?_ N 601 100000000 0 (by omega) ⟨0, rfl, rfl, fun k2 h => by omega, Or.inl rfl⟩
      intro self3 q x2 x3 ⟨k, g1, g2, g3, g4⟩ ih3
      subst g1
      have ek : (k : Int).toNat = k := rfl
      unfold iM_steps_b250_F
      cases q with
      | zero =>
        rw [if_pos (by omega), wp_some]
        show x2 = _
        obtain ⟨k1, c1, c2, c3⟩ := i6 (-(L 12)) (by omega) (by omega)
        have d1 := g3 k1 (by omega)
        have d2 := f3 k1 (by omega)
        have d4 := cA_s (L 12 + ((k1 : Int) - 300))
        have d5 := cA_s ((k1 : Int) - 300 - -(L 12))
        have d6 := i4 k1 (by omega)
        rw [← hl12]
        rcases g4 with h | ⟨k2, h2, h3⟩
        · omega
        · have d3 := f3 k2 (by omega)
          have d7 := cA_s (L 12 + ((k2 : Int) - 300))
          have d8 := cA_s ((k2 : Int) - 300 - -(L 12))
          by_cases hF : cFw L 12 k2 = 100000000
          · omega
          · have d9 := i5 k2 (by omega) hF (-(L 12))
            omega
      | succ q =>
        have d3 := f3 k (by omega)
        have d6 := i4 k (by omega)
        have d7 := cA_s (L 12 + ((k : Int) - 300))
        have eX : l 12 + (k : Int) - 300 - cP s 12 = L 12 + ((k : Int) - 300) := by omega
        rw [if_neg (by omega)]
        simp only [wp_gd, wp_bd1, jb_iff, jr_iff, ek, p12]
        refine ⟨by omega, by omega, by omega, by omega, ?_⟩
        rw [eX, w_size (by omega) (by omega), wp_some]
        simp only [wp_gd, wp_ite, jr_iff]
        refine ⟨by omega, fun hle => ⟨by omega, ih3 q _ _ (Nat.lt_succ_self q) ⟨k + 1, by omega, by omega, fun k2 hk2 => ?_, ?_⟩⟩, fun hgt => ⟨by omega, ih3 q _ _ (Nat.lt_succ_self q) ⟨k + 1, by omega, by omega, fun k2 hk2 => ?_, Or.inr ⟨k, by omega, rfl⟩⟩⟩⟩
        · by_cases e : k2 = k
          · rw [e]
            exact hle
          · exact g3 k2 (by omega)
        · rcases g4 with h | ⟨k2, h2, h3⟩
          · exact Or.inl h
          · exact Or.inr ⟨k2, by omega, h3⟩
        · by_cases e : k2 = k
          · rw [e]
            exact Int.le_refl _
          · have := g3 k2 (by omega)
            omega
    | succ q =>
      rw [if_neg (by omega)]
      unfold iM_steps_b63
      refine wp_zlp2 (fun (q : Nat) (x2 : Int) (G : Nat → Int) => ∃ k : Nat, x2 = k ∧ k + q = 601 ∧ ∀ j, j < k → G j = 100000000) ?_ N 601 0 G (by omega) ⟨0, rfl, rfl, fun j hj => by omega⟩
      intro self3 q3 x3 G ⟨k, g1, g2, g3⟩ ih3
      subst g1
      have ek : (k : Int).toNat = k := rfl
      unfold iM_steps_b63_F
      cases q3 with
      | succ q3 =>
        rw [if_neg (by omega), wp_gd, wp_gd, ek]
        refine ⟨jb_iff.mpr (by omega), jr_iff.mpr (by omega), ih3 q3 _ _ (Nat.lt_succ_self q3) ⟨k + 1, by omega, by omega, fun j hj => ?_⟩⟩
        by_cases hj2 : j = k
        · rw [hj2, va_up_self]
        · rw [va_up_ne _ _ hj2]
          exact g3 j (by omega)
      | zero =>
        rw [if_pos (by omega)]
        show wp (iM_steps_b84 N s l ra self2 _ p F G pl2) _
        unfold iM_steps_b84
        have hI : cI p (cSt L p).1 (cSt L p).2.1 (cSt L p).2.2 F := by
          obtain ⟨i1, i2, i3, i4, i5, i6⟩ := hAll p (by omega)
          refine ⟨i1, i2, i3, fun k hk => ?_, fun k hk => ?_, fun t ht1 ht2 => ?_⟩
          · rw [f3 k hk]
            exact i4 k hk
          · rw [f3 k hk]
            exact i5 k hk
          · obtain ⟨k, c1, c2, c3⟩ := i6 t ht1 ht2
            refine ⟨k, c1, ?_, ?_⟩
            · rw [f3 k c1]
              exact c2
            · rw [f3 k c1]
              exact c3
        refine w_pass hN (p := p) (L := L p) (by omega) (hr p (by omega)) (by rw [hLp, hpl p (by omega)]) (hLb p (by omega)) (hl p (by omega)) hI (fun j hj => g3 j (by omega)) (fun H hH => ?_)
        show wp (iM_steps_b212 N s l ra self2 _ p F H pl2) _
        unfold iM_steps_b212 iM_steps_b214
        refine wp_zlp2 (fun (q : Nat) (x2 : Int) (F : Nat → Int) => ∃ k : Nat, x2 = k ∧ k + q = 601 ∧ ∀ j, j < k → F j = H j) ?_ N 601 0 F (by omega) ⟨0, rfl, rfl, fun j hj => by omega⟩
        intro self4 q4 x4 F4 ⟨k, k1, k2, k3⟩ ih4
        subst k1
        have ek : (k : Int).toNat = k := rfl
        unfold iM_steps_b214_F
        cases q4 with
        | succ q4 =>
          rw [if_neg (by omega), wp_gd, wp_gd, ek]
          refine ⟨jb_iff.mpr (by omega), jr_iff.mpr (by omega), ih4 q4 _ _ (Nat.lt_succ_self q4) ⟨k + 1, by omega, by omega, fun j hj => ?_⟩⟩
          by_cases hj2 : j = k
          · rw [hj2, va_up_self]
          · rw [va_up_ne _ _ hj2]
            exact k3 j (by omega)
        | zero =>
          rw [if_pos (by omega)]
          show wp (iM_steps_b239 N s l ra self2 _ p F4 H pl2) _
          unfold iM_steps_b239
          rw [wp_gd]
          exact ⟨jr_iff.mpr (by omega), ih2 q _ _ _ (Nat.lt_succ_self q) ⟨p + 1, by omega, by omega, fun j hj => (k3 j (by omega)).trans (hH j hj)⟩⟩
