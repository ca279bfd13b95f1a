set_option maxHeartbeats 4000000
set_option maxRecDepth 100000
/-! steps -/
def cA (x : Int) : Int := if 0 ≤ x then x else -x
theorem cA_s (x : Int) : x ≤ cA x ∧ -x ≤ cA x ∧ (cA x = x ∨ cA x = -x) := by
  unfold cA
  split <;> omega
theorem jabs_cA (x : Int) : jabs x = cA x := by
  unfold jabs cA
  split <;> omega
def cG (low a b t : Int) : Int := jmin (a + cA (low - t)) (b + cA (low + 1 - t))
theorem jmin_s (x y : Int) : jmin x y ≤ x ∧ jmin x y ≤ y ∧ (jmin x y = x ∨ jmin x y = y) := by
  unfold jmin
  split <;> omega
theorem jmax_s (x y : Int) : x ≤ jmax x y ∧ y ≤ jmax x y ∧ (jmax x y = x ∨ jmax x y = y) := by
  unfold jmax
  split <;> omega
theorem msb_i32 (a : Int32) : a.toBitVec.msb = decide (a.toInt < 0) := BitVec.msb_eq_toInt
theorem jxo_sign {a r : Int} (ha : -2147483648 ≤ a ∧ a < 2147483648) (hr : 0 ≤ r ∧ r < 2147483648) : 0 ≤ jxo a r ↔ 0 ≤ a := by
  have h1 := msb_i32 (Int32.ofInt a ^^^ Int32.ofInt r)
  have h2 := msb_i32 (Int32.ofInt a)
  have h3 := msb_i32 (Int32.ofInt r)
  rw [show (Int32.ofInt a ^^^ Int32.ofInt r).toBitVec = (Int32.ofInt a).toBitVec ^^^ (Int32.ofInt r).toBitVec from rfl, BitVec.msb_xor, h2, h3] at h1
  have e1 : (Int32.ofInt a).toInt = a := Int32.toInt_ofInt_of_le (by omega) (by omega)
  have e2 : (Int32.ofInt r).toInt = r := Int32.toInt_ofInt_of_le (by omega) (by omega)
  rw [e1, e2] at h1
  have e3 : jxo a r = (Int32.ofInt a ^^^ Int32.ofInt r).toInt := rfl
  rw [← e3, show decide (r < 0) = false from decide_eq_false (by omega)] at h1
  by_cases h : a < 0
  · rw [decide_eq_true h] at h1
    have := of_decide_eq_true h1.symm
    omega
  · rw [decide_eq_false h] at h1
    have := of_decide_eq_false h1.symm
    omega
theorem w_floorDiv {a r : Int} (ha : -1000000 ≤ a ∧ a ≤ 1000000) (hr : 0 < r ∧ r ≤ 1000000) : iJMath_floorDiv a r = some (a / r) := by
  have hq := Int.tdiv_eq_ediv (a := a) (b := r)
  have hs : r.sign = 1 := Int.sign_eq_one_of_pos hr.1
  have hd1 : a / r * r ≤ a := Int.ediv_mul_le a (by omega)
  have hd2 : a < (a / r + 1) * r := Int.lt_ediv_add_one_mul_self a hr.1
  have hd3 : -1000000 ≤ a / r := Int.le_ediv_of_mul_le hr.1 (by omega)
  have hd4 : a / r ≤ 1000000 := Int.ediv_le_of_le_mul hr.1 (by omega)
  unfold iJMath_floorDiv
  rw [gd, if_pos (jn_iff.mpr (by omega))]
  by_cases h : 0 ≤ a
  · rw [if_pos ((jxo_sign (by omega) (by omega)).mpr h), Int.tdiv_eq_ediv_of_nonneg h, gd, if_pos (jr_iff.mpr (by omega))]
  · rw [if_neg (fun k => h ((jxo_sign (by omega) (by omega)).mp k))]
    by_cases hd : r ∣ a
    · rw [if_pos (Or.inr hd), Int.add_zero] at hq
      have e := Int.ediv_mul_cancel hd
      rw [hq, gd, if_pos (jr_iff.mpr (by omega)), gd, if_pos (jr_iff.mpr (by omega)), if_pos e]
    · rw [if_neg (fun k => k.elim h hd), hs] at hq
      have e : ¬ (a / r + 1) * r = a := fun e => hd ⟨a / r + 1, by rw [Int.mul_comm]; exact e.symm⟩
      have e2 : (a / r + 1) * r = a / r * r + r := by rw [Int.add_mul, Int.one_mul]
      rw [hq, gd, if_pos (jr_iff.mpr (by omega)), gd, if_pos (jr_iff.mpr (by omega)), if_neg e, gd, if_pos (jr_iff.mpr (by omega)), show a / r + 1 - 1 = a / r by omega]
/-- what the cheapest ways so far are: at low and low + 1 stand the best of all -/
def cI (p : Nat) (low a b : Int) (F : Nat → Int) : Prop := (-101 ≤ low ∧ low ≤ 101) ∧ (0 ≤ a ∧ a ≤ 4000 * p) ∧ (0 ≤ b ∧ b ≤ 1000000000) ∧ (∀ k : Nat, k ≤ 600 → F k = 100000000 ∨ (0 ≤ F k ∧ F k ≤ 4000 * p)) ∧ (∀ k : Nat, k ≤ 600 → F k ≠ 100000000 → ∀ t : Int, cG low a b t ≤ F k + cA (k - 300 - t)) ∧ (∀ t : Int, -10000 ≤ t → t ≤ 10000 → ∃ k : Nat, k ≤ 600 ∧ F k ≠ 100000000 ∧ F k + cA (k - 300 - t) = cG low a b t)
theorem cI_0 {F : Nat → Int} (h : ∀ k, k ≤ 600 → F k = if k = 300 then 0 else 100000000) : cI 0 0 0 1000000000 F := by
  refine ⟨by omega, by omega, by omega, fun k hk => ?_, fun k hk hF t => ?_, fun t h1 h2 => ⟨300, by omega, by rw [h 300 (by omega), if_pos rfl]; decide, ?_⟩⟩
  · rw [h k hk]
    split <;> omega
  · rw [h k hk] at hF ⊢
    by_cases e : k = 300
    · rw [if_pos e, e]
      have a := jmin_s (0 + cA (0 - t)) (1000000000 + cA (0 + 1 - t))
      have b := cA_s (0 - t)
      have c := cA_s ((300 : Nat) - 300 - t)
      unfold cG
      omega
    · rw [if_neg e] at hF
      exact absurd rfl hF
  · rw [h 300 (by omega), if_pos rfl]
    have a := jmin_s (0 + cA (0 - t)) (1000000000 + cA (0 + 1 - t))
    have b := cA_s (0 - t)
    have b2 := cA_s (0 + 1 - t)
    have c := cA_s ((300 : Nat) - 300 - t)
    unfold cG
    omega
/-- one place on: the next ways' costs -/
theorem cI_next {p : Nat} {low a b L r : Int} {F : Nat → Int} (h : cI p low a b F) (hL : -99 ≤ L ∧ L ≤ 99) (hr : 2 ≤ r ∧ r ≤ 10) (hp : p ≤ 12) {G : Nat → Int} (hG : ∀ j : Nat, j ≤ 600 → G j = cA (j - 300) + cG low a b (r * (j - 300) - L)) : cI (p + 1) ((low + L) / r) (cA ((low + L) / r) + cG low a b (r * ((low + L) / r) - L)) (cA ((low + L) / r + 1) + cG low a b (r * ((low + L) / r + 1) - L)) G := by
  obtain ⟨h1, h2, h3, h4, h5, h6⟩ := h
  have u1 : (low + L) / r * r ≤ low + L := Int.ediv_mul_le _ (by omega)
  have u2 : low + L < ((low + L) / r + 1) * r := Int.lt_ediv_add_one_mul_self _ (by omega)
  rw [Int.add_mul, Int.one_mul] at u2
  have u3 : -100 ≤ (low + L) / r := Int.le_ediv_of_mul_le (by omega) (by omega)
  have u4 : (low + L) / r ≤ 100 := Int.ediv_le_of_le_mul (by omega) (by omega)
  generalize hU : (low + L) / r = U at *
  rw [Int.mul_comm] at u1 u2
  -- the shape of cG
  have gl : ∀ t, t ≤ low → cG low a b t = cG low a b low + (low - t) := fun t ht => by
    have a1 := jmin_s (a + cA (low - t)) (b + cA (low + 1 - t))
    have a2 := jmin_s (a + cA (low - low)) (b + cA (low + 1 - low))
    have a3 := cA_s (low - t)
    have a4 := cA_s (low + 1 - t)
    have a5 := cA_s (low - low)
    have a6 := cA_s (low + 1 - low)
    unfold cG
    omega
  have gr : ∀ t, low + 1 ≤ t → cG low a b t = cG low a b (low + 1) + (t - low - 1) := fun t ht => by
    have a1 := jmin_s (a + cA (low - t)) (b + cA (low + 1 - t))
    have a2 := jmin_s (a + cA (low - (low + 1))) (b + cA (low + 1 - (low + 1)))
    have a3 := cA_s (low - t)
    have a4 := cA_s (low + 1 - t)
    have a5 := cA_s (low - (low + 1))
    have a6 := cA_s (low + 1 - (low + 1))
    unfold cG
    omega
  have g0 : ∀ t, 0 ≤ cG low a b t ∧ cG low a b t ≤ a + cA (low - t) := fun t => by
    have a1 := jmin_s (a + cA (low - t)) (b + cA (low + 1 - t))
    have a3 := cA_s (low - t)
    have a4 := cA_s (low + 1 - t)
    unfold cG
    omega
  -- the value at any way
  have val : ∀ y : Int, y ≤ U → cA y + cG low a b (r * y - L) ≥ cA U + cG low a b (r * U - L) + (U - y) := fun y hy => by
    have m : 2 * (U - y) ≤ r * (U - y) := Int.mul_le_mul_of_nonneg_right hr.1 (by omega)
    rw [Int.mul_sub r] at m
    rw [gl (r * y - L) (by omega), gl (r * U - L) (by omega)]
    have a1 := cA_s y
    have a2 := cA_s U
    omega
  have var : ∀ y : Int, U + 1 ≤ y → cA y + cG low a b (r * y - L) ≥ cA (U + 1) + cG low a b (r * (U + 1) - L) + (y - U - 1) := fun y hy => by
    have m : 2 * (y - (U + 1)) ≤ r * (y - (U + 1)) := Int.mul_le_mul_of_nonneg_right hr.1 (by omega)
    have e : r * (U + 1) = r * U + r := by rw [Int.mul_add, Int.mul_one]
    rw [Int.mul_sub r] at m
    rw [gr (r * y - L) (by omega), gr (r * (U + 1) - L) (by omega)]
    have a1 := cA_s y
    have a2 := cA_s (U + 1)
    omega
  have e : r * (U + 1) = r * U + r := by rw [Int.mul_add, Int.mul_one]
  have q1 := g0 (r * U - L)
  have q2 := g0 (r * (U + 1) - L)
  have q3 := cA_s (low - (r * U - L))
  have q4 := cA_s (low - (r * (U + 1) - L))
  have q5 := cA_s U
  have q6 := cA_s (U + 1)
  have fin : ∀ j : Nat, j ≤ 600 → 0 ≤ G j ∧ G j ≤ 4000 * (p + 1 : Nat) := fun j hj => by
    have b1 := g0 (r * (j - 300) - L)
    have b2 := cA_s (low - (r * (j - 300) - L))
    have b3 := cA_s ((j : Int) - 300)
    have m1 : r * ((j : Int) - 300) ≤ 3000 := by
      by_cases hj3 : (300 : Int) ≤ j
      · have := Int.mul_le_mul hr.2 (show (j : Int) - 300 ≤ 300 by omega) (by omega) (by omega)
        omega
      · have := Int.mul_nonneg (show 0 ≤ r by omega) (show 0 ≤ 300 - (j : Int) by omega)
        rw [Int.mul_sub] at this ⊢
        omega
    have m2 : -3000 ≤ r * ((j : Int) - 300) := by
      by_cases hj3 : (300 : Int) ≤ j
      · have := Int.mul_nonneg (show 0 ≤ r by omega) (show 0 ≤ (j : Int) - 300 by omega)
        omega
      · have := Int.mul_le_mul hr.2 (show 300 - (j : Int) ≤ 300 by omega) (by omega) (by omega)
        rw [Int.mul_sub] at this ⊢
        omega
    rw [hG j hj]
    omega
  refine ⟨by omega, by omega, by omega, fun j hj => Or.inr (fin j hj), fun j hj _ t => ?_, fun t ht1 ht2 => ?_⟩
  · rw [hG j hj]
    have a1 := jmin_s (cA U + cG low a b (r * U - L) + cA (U - t)) (cA (U + 1) + cG low a b (r * (U + 1) - L) + cA (U + 1 - t))
    have a2 := cA_s (U - t)
    have a3 := cA_s (U + 1 - t)
    have a4 := cA_s ((j : Int) - 300 - t)
    show jmin _ _ ≤ _
    by_cases hj2 : (j : Int) - 300 ≤ U
    · have := val _ hj2
      omega
    · have := var ((j : Int) - 300) (by omega)
      omega
  · have a1 := jmin_s (cA U + cG low a b (r * U - L) + cA (U - t)) (cA (U + 1) + cG low a b (r * (U + 1) - L) + cA (U + 1 - t))
    have f1 := fin (U + 300).toNat (by omega)
    have f2 := fin (U + 301).toNat (by omega)
    have c1 : (((U + 300).toNat : Nat) : Int) - 300 = U := by omega
    have c2 : (((U + 301).toNat : Nat) : Int) - 300 = U + 1 := by omega
    have g1 := hG (U + 300).toNat (by omega)
    have g2 := hG (U + 301).toNat (by omega)
    rw [c1] at g1
    rw [c2] at g2
    rcases a1.2.2 with e1 | e1
    · refine ⟨(U + 300).toNat, by omega, by omega, ?_⟩
      rw [c1, g1]
      exact e1.symm
    · refine ⟨(U + 301).toNat, by omega, by omega, ?_⟩
      rw [c2, g2]
      exact e1.symm
