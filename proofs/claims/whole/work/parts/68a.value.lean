set_option maxHeartbeats 4000000
set_option maxRecDepth 100000
/-! values: the machines of both sides -/
theorem tdiv_b {a b : Int} (h : inB a) : -1000000000 ≤ a.tdiv b ∧ a.tdiv b ≤ 1000000000 := by
  have h2 := Int.natAbs_tdiv_le_natAbs a b
  have := h.1
  have := h.2
  omega
theorem fdiv_t (a b : Int) (hb : b ≠ 0) : a.fdiv b = if b ∣ a then a.tdiv b else if (0 ≤ a ↔ 0 ≤ b) then a.tdiv b else a.tdiv b - 1 := by
  rw [Int.fdiv_eq_tdiv]
  by_cases h : b ∣ a
  · rw [if_pos h, if_pos h, Int.sub_zero]
  · rw [if_neg h, if_neg h]
    by_cases h1 : 0 ≤ a
    · rw [if_pos h1]
      by_cases h2 : 0 ≤ b
      · rw [if_pos h2, if_pos ⟨fun _ => h2, fun _ => h1⟩, Int.sub_zero]
      · rw [if_neg h2, if_neg (fun k => h2 (k.mp h1))]
    · rw [if_neg h1]
      by_cases h2 : 0 ≤ b
      · rw [if_pos h2, if_neg (fun k => h1 (k.mpr h2)), Int.sign_eq_one_of_pos (by omega)]
      · rw [if_neg h2, if_pos ⟨fun k => absurd k h1, fun k => absurd k h2⟩, Int.sign_eq_neg_one_of_neg (by omega)]
        omega
theorem msb_i64 (a : Int64) : a.toBitVec.msb = decide (a.toInt < 0) := BitVec.msb_eq_toInt
theorem jxor_sign {a r : Int} (ha : inB a) (hr : inB r) : 0 ≤ jxor a r ↔ (0 ≤ a ↔ 0 ≤ r) := by
  obtain ⟨ha1, ha2⟩ := ha
  obtain ⟨hr1, hr2⟩ := hr
  have h1 := msb_i64 (Int64.ofInt a ^^^ Int64.ofInt r)
  have h2 := msb_i64 (Int64.ofInt a)
  have h3 := msb_i64 (Int64.ofInt r)
  rw [show (Int64.ofInt a ^^^ Int64.ofInt r).toBitVec = (Int64.ofInt a).toBitVec ^^^ (Int64.ofInt r).toBitVec from rfl, BitVec.msb_xor, h2, h3] at h1
  have e1 : (Int64.ofInt a).toInt = a := Int64.toInt_ofInt_of_le (by omega) (by omega)
  have e2 : (Int64.ofInt r).toInt = r := Int64.toInt_ofInt_of_le (by omega) (by omega)
  rw [e1, e2] at h1
  have e3 : jxor a r = (Int64.ofInt a ^^^ Int64.ofInt r).toInt := rfl
  rw [← e3] at h1
  by_cases h : a < 0
  · by_cases k : r < 0
    · rw [decide_eq_true h, decide_eq_true k] at h1
      have := of_decide_eq_false h1.symm
      omega
    · rw [decide_eq_true h, decide_eq_false k] at h1
      have := of_decide_eq_true h1.symm
      omega
  · by_cases k : r < 0
    · rw [decide_eq_false h, decide_eq_true k] at h1
      have := of_decide_eq_true h1.symm
      omega
    · rw [decide_eq_false h, decide_eq_false k] at h1
      have := of_decide_eq_false h1.symm
      omega
theorem w_flK {a b : Int} (ha : inB a) (hb : inB b) (h0 : b ≠ 0) : iJMath_floorDivL a b = some (flo a b) := by
  have ht := tdiv_b (b := b) ha
  have hx := jxor_sign ha hb
  unfold iJMath_floorDivL flo
  rw [if_neg h0, fdiv_t a b h0, gd, if_pos (jn_iff.mpr h0)]
  by_cases hs : 0 ≤ a ↔ 0 ≤ b
  · rw [if_pos (hx.mpr hs), gd, if_pos (jR_iff.mpr (by omega)), if_pos hs]
    by_cases hd : b ∣ a
    · rw [if_pos hd]
    · rw [if_neg hd]
  · rw [if_neg (fun k => hs (hx.mp k)), gd, if_pos (jR_iff.mpr (by omega)), if_neg hs]
    have hm : (a.tdiv b * b).natAbs ≤ 1000000000 := by
      have e := Int.mul_tdiv_add_tmod a b
      rw [Int.mul_comm] at e
      have l : (a.tmod b).natAbs = a.natAbs % b.natAbs := Int.natAbs_tmod a b
      have q : a.tdiv b * b = a - a.tmod b := by omega
      have q2 : (a.tdiv b * b).natAbs = (a.natAbs / b.natAbs) * b.natAbs := by
        rw [Int.natAbs_mul, Int.natAbs_tdiv]
        rfl
      rw [q2]
      have := Nat.div_mul_le_self a.natAbs b.natAbs
      have := ha.1
      have := ha.2
      omega
    rw [gd, if_pos (jR_iff.mpr (by omega))]
    by_cases hd : b ∣ a
    · rw [if_pos (Int.tdiv_mul_cancel hd), if_pos hd]
    · have ne : ¬ a.tdiv b * b = a := fun k => hd ⟨a.tdiv b, by rw [Int.mul_comm]; exact k.symm⟩
      rw [if_neg ne, if_neg hd, gd, if_pos (jR_iff.mpr (by omega))]
theorem w_flR {a b : Int} (ha : inB a) : iM_floor a b = some (flo a b) := by
  have ht := tdiv_b (b := b) ha
  unfold iM_floor flo
  by_cases h0 : b = 0
  · rw [if_pos h0, if_pos h0]
  · rw [if_neg h0, if_neg h0, fdiv_t a b h0, gd, if_pos (jn_iff.mpr h0)]
    by_cases hd : b ∣ a
    · rw [if_pos (Int.tmod_eq_zero_of_dvd hd), gd, if_pos (jR_iff.mpr (by omega)), if_pos hd]
    · rw [if_neg (fun k => hd (Int.dvd_of_tmod_eq_zero k)), if_neg hd]
      unfold iM_floor_b32 iM_floor_b43
      by_cases h1 : 0 ≤ a
      · rw [if_pos h1, gd, if_pos (jR_iff.mpr (by omega))]
        by_cases h2 : 0 ≤ b
        · rw [if_pos h2, if_pos rfl, if_pos ⟨fun _ => h2, fun _ => h1⟩]
        · rw [if_neg h2, if_neg (by decide), if_neg (fun k => h2 (k.mp h1)), gd, if_pos (jR_iff.mpr (by omega))]
      · rw [if_neg h1, gd, if_pos (jR_iff.mpr (by omega))]
        by_cases h2 : 0 ≤ b
        · rw [if_pos h2, if_neg (by decide), if_neg (fun k => h1 (k.mpr h2)), gd, if_pos (jR_iff.mpr (by omega))]
        · rw [if_neg h2, if_pos rfl, if_pos ⟨fun k => absurd k h1, fun k => absurd k h2⟩]
theorem w_clip (x : Int) : iM_clip x = some (clp x) := by
  unfold iM_clip clp
  by_cases h : x ≤ 1000000000
  · rw [if_pos h]
    by_cases h2 : -1000000000 ≤ x
    · rw [if_pos h2, if_neg (by omega), if_neg (by omega)]
    · rw [if_neg h2, if_pos (by omega)]
  · rw [if_neg h, if_neg (by omega), if_pos (by omega)]
theorem clp_j (x : Int) : jmin 1000000000 (jmax (-1000000000) x) = clp x := by
  unfold jmin jmax clp
  by_cases h : -1000000000 < x
  · rw [if_pos h, if_neg (show ¬ x < -1000000000 by omega)]
    by_cases h2 : x < 1000000000
    · rw [if_pos h2, if_neg (by omega)]
    · rw [if_neg h2]
      by_cases h3 : 1000000000 < x
      · rw [if_pos h3]
      · rw [if_neg h3]
        omega
  · rw [if_neg h, if_pos (by decide)]
    by_cases h2 : x < -1000000000
    · rw [if_pos h2]
    · rw [if_neg h2, if_neg (by omega)]
      omega
theorem mul_b {a b : Int} (ha : inB a) (hb : inB b) : -1000000000000000000 ≤ a * b ∧ a * b ≤ 1000000000000000000 := by
  have h1 : a.natAbs ≤ 1000000000 := by have := ha.1; have := ha.2; omega
  have h2 : b.natAbs ≤ 1000000000 := by have := hb.1; have := hb.2; omega
  have h3 : (a * b).natAbs ≤ 1000000000 * 1000000000 := by
    rw [Int.natAbs_mul]
    exact Nat.mul_le_mul h1 h2
  omega
theorem tgl_17 (a b : Int) : iJudge_together (-17) a b = (some (jmax a b)) := by
  unfold iJudge_together
  rw [if_pos rfl]
theorem kpl_17 (a b : Int) : kOp (-17) a b = (if b < a then a else b) := by
  unfold kOp
  rw [if_neg (show ¬ (((-17) : Int) = -7) by decide), if_neg (show ¬ (((-17) : Int) = -8) by decide), if_neg (show ¬ (((-17) : Int) = -9) by decide), if_neg (show ¬ (((-17) : Int) = -10) by decide), if_neg (show ¬ (((-17) : Int) = -11 ∨ ((-17) : Int) = -16) by decide), if_pos (show ((-17) : Int) = -12 ∨ ((-17) : Int) = -17 by decide)]
theorem tgl_16 (a b : Int) : iJudge_together (-16) a b = (some (jmin a b)) := by
  unfold iJudge_together
  rw [if_neg (show ¬ ((-16) : Int) = -17 by decide), if_pos rfl]
theorem kpl_16 (a b : Int) : kOp (-16) a b = (if b < a then b else a) := by
  unfold kOp
  rw [if_neg (show ¬ (((-16) : Int) = -7) by decide), if_neg (show ¬ (((-16) : Int) = -8) by decide), if_neg (show ¬ (((-16) : Int) = -9) by decide), if_neg (show ¬ (((-16) : Int) = -10) by decide), if_pos (show ((-16) : Int) = -11 ∨ ((-16) : Int) = -16 by decide)]
theorem tgl_14 (a b : Int) : iJudge_together (-14) a b = (if a ≤ b then some 0 else some 1) := by
  unfold iJudge_together
  rw [if_neg (show ¬ ((-14) : Int) = -17 by decide), if_neg (show ¬ ((-14) : Int) = -16 by decide), if_pos rfl]
theorem kpl_14 (a b : Int) : kOp (-14) a b = (if b < a then 1 else 0) := by
  unfold kOp
  rw [if_neg (show ¬ (((-14) : Int) = -7) by decide), if_neg (show ¬ (((-14) : Int) = -8) by decide), if_neg (show ¬ (((-14) : Int) = -9) by decide), if_neg (show ¬ (((-14) : Int) = -10) by decide), if_neg (show ¬ (((-14) : Int) = -11 ∨ ((-14) : Int) = -16) by decide), if_neg (show ¬ (((-14) : Int) = -12 ∨ ((-14) : Int) = -17) by decide), if_neg (show ¬ (((-14) : Int) = -13) by decide), if_pos (show ((-14) : Int) = -14 by decide)]
theorem tgl_13 (a b : Int) : iJudge_together (-13) a b = (if b ≤ a then some 0 else some 1) := by
  unfold iJudge_together
  rw [if_neg (show ¬ ((-13) : Int) = -17 by decide), if_neg (show ¬ ((-13) : Int) = -16 by decide), if_neg (show ¬ ((-13) : Int) = -14 by decide), if_pos rfl]
theorem kpl_13 (a b : Int) : kOp (-13) a b = (if a < b then 1 else 0) := by
  unfold kOp
  rw [if_neg (show ¬ (((-13) : Int) = -7) by decide), if_neg (show ¬ (((-13) : Int) = -8) by decide), if_neg (show ¬ (((-13) : Int) = -9) by decide), if_neg (show ¬ (((-13) : Int) = -10) by decide), if_neg (show ¬ (((-13) : Int) = -11 ∨ ((-13) : Int) = -16) by decide), if_neg (show ¬ (((-13) : Int) = -12 ∨ ((-13) : Int) = -17) by decide), if_pos (show ((-13) : Int) = -13 by decide)]
theorem tgl_12 (a b : Int) : iJudge_together (-12) a b = (some (jmax a b)) := by
  unfold iJudge_together
  rw [if_neg (show ¬ ((-12) : Int) = -17 by decide), if_neg (show ¬ ((-12) : Int) = -16 by decide), if_neg (show ¬ ((-12) : Int) = -14 by decide), if_neg (show ¬ ((-12) : Int) = -13 by decide), if_pos rfl]
theorem kpl_12 (a b : Int) : kOp (-12) a b = (if b < a then a else b) := by
  unfold kOp
  rw [if_neg (show ¬ (((-12) : Int) = -7) by decide), if_neg (show ¬ (((-12) : Int) = -8) by decide), if_neg (show ¬ (((-12) : Int) = -9) by decide), if_neg (show ¬ (((-12) : Int) = -10) by decide), if_neg (show ¬ (((-12) : Int) = -11 ∨ ((-12) : Int) = -16) by decide), if_pos (show ((-12) : Int) = -12 ∨ ((-12) : Int) = -17 by decide)]
theorem tgl_11 (a b : Int) : iJudge_together (-11) a b = (some (jmin a b)) := by
  unfold iJudge_together
  rw [if_neg (show ¬ ((-11) : Int) = -17 by decide), if_neg (show ¬ ((-11) : Int) = -16 by decide), if_neg (show ¬ ((-11) : Int) = -14 by decide), if_neg (show ¬ ((-11) : Int) = -13 by decide), if_neg (show ¬ ((-11) : Int) = -12 by decide), if_pos rfl]
theorem kpl_11 (a b : Int) : kOp (-11) a b = (if b < a then b else a) := by
  unfold kOp
  rw [if_neg (show ¬ (((-11) : Int) = -7) by decide), if_neg (show ¬ (((-11) : Int) = -8) by decide), if_neg (show ¬ (((-11) : Int) = -9) by decide), if_neg (show ¬ (((-11) : Int) = -10) by decide), if_pos (show ((-11) : Int) = -11 ∨ ((-11) : Int) = -16 by decide)]
theorem tgl_10 (a b : Int) : iJudge_together (-10) a b = (if b = 0 then some 0 else bd1 (iJMath_floorDivL a b) fun rc1 => some rc1) := by
  unfold iJudge_together
  rw [if_neg (show ¬ ((-10) : Int) = -17 by decide), if_neg (show ¬ ((-10) : Int) = -16 by decide), if_neg (show ¬ ((-10) : Int) = -14 by decide), if_neg (show ¬ ((-10) : Int) = -13 by decide), if_neg (show ¬ ((-10) : Int) = -12 by decide), if_neg (show ¬ ((-10) : Int) = -11 by decide), if_pos rfl]
theorem kpl_10 (a b : Int) : kOp (-10) a b = (flo a b) := by
  unfold kOp
  rw [if_neg (show ¬ (((-10) : Int) = -7) by decide), if_neg (show ¬ (((-10) : Int) = -8) by decide), if_neg (show ¬ (((-10) : Int) = -9) by decide), if_pos (show ((-10) : Int) = -10 by decide)]
theorem tgl_9 (a b : Int) : iJudge_together (-9) a b = (gd (jR (a * b)) (some (jmin 1000000000 (jmax (-1000000000) (a * b))))) := by
  unfold iJudge_together
  rw [if_neg (show ¬ ((-9) : Int) = -17 by decide), if_neg (show ¬ ((-9) : Int) = -16 by decide), if_neg (show ¬ ((-9) : Int) = -14 by decide), if_neg (show ¬ ((-9) : Int) = -13 by decide), if_neg (show ¬ ((-9) : Int) = -12 by decide), if_neg (show ¬ ((-9) : Int) = -11 by decide), if_neg (show ¬ ((-9) : Int) = -10 by decide), if_pos rfl]
theorem kpl_9 (a b : Int) : kOp (-9) a b = (clp (a * b)) := by
  unfold kOp
  rw [if_neg (show ¬ (((-9) : Int) = -7) by decide), if_neg (show ¬ (((-9) : Int) = -8) by decide), if_pos (show ((-9) : Int) = -9 by decide)]
theorem tgl_8 (a b : Int) : iJudge_together (-8) a b = (gd (jR (a - b)) (some (jmin 1000000000 (jmax (-1000000000) (a - b))))) := by
  unfold iJudge_together
  rw [if_neg (show ¬ ((-8) : Int) = -17 by decide), if_neg (show ¬ ((-8) : Int) = -16 by decide), if_neg (show ¬ ((-8) : Int) = -14 by decide), if_neg (show ¬ ((-8) : Int) = -13 by decide), if_neg (show ¬ ((-8) : Int) = -12 by decide), if_neg (show ¬ ((-8) : Int) = -11 by decide), if_neg (show ¬ ((-8) : Int) = -10 by decide), if_neg (show ¬ ((-8) : Int) = -9 by decide), if_pos rfl]
theorem kpl_8 (a b : Int) : kOp (-8) a b = (clp (a - b)) := by
  unfold kOp
  rw [if_neg (show ¬ (((-8) : Int) = -7) by decide), if_pos (show ((-8) : Int) = -8 by decide)]
theorem tgl_7 (a b : Int) : iJudge_together (-7) a b = (gd (jR (a + b)) (some (jmin 1000000000 (jmax (-1000000000) (a + b))))) := by
  unfold iJudge_together
  rw [if_neg (show ¬ ((-7) : Int) = -17 by decide), if_neg (show ¬ ((-7) : Int) = -16 by decide), if_neg (show ¬ ((-7) : Int) = -14 by decide), if_neg (show ¬ ((-7) : Int) = -13 by decide), if_neg (show ¬ ((-7) : Int) = -12 by decide), if_neg (show ¬ ((-7) : Int) = -11 by decide), if_neg (show ¬ ((-7) : Int) = -10 by decide), if_neg (show ¬ ((-7) : Int) = -9 by decide), if_neg (show ¬ ((-7) : Int) = -8 by decide), if_pos rfl]
theorem kpl_7 (a b : Int) : kOp (-7) a b = (clp (a + b)) := by
  unfold kOp
  rw [if_pos (show ((-7) : Int) = -7 by decide)]
theorem max_f (a b : Int) : jmax a b = if b < a then a else b := by
  unfold jmax
  by_cases k : a < b
  · rw [if_pos k, if_neg (by omega)]
  · rw [if_neg k]
    by_cases k2 : b < a
    · rw [if_pos k2]
    · rw [if_neg k2]
      omega
theorem w_tog {c a b : Int} (hc : c ≤ -7) (ha : inB a) (hb : inB b) : iJudge_together c a b = some (kOp c a b) := by
  have hm := mul_b ha hb
  by_cases e17 : c = -17
  · rw [e17, tgl_17, kpl_17, max_f]
  by_cases e16 : c = -16
  · rw [e16, tgl_16, kpl_16]
    rfl
  by_cases e14 : c = -14
  · rw [e14, tgl_14, kpl_14]
    by_cases k : a ≤ b
    · rw [if_pos k, if_neg (by omega)]
    · rw [if_neg k, if_pos (by omega)]
  by_cases e13 : c = -13
  · rw [e13, tgl_13, kpl_13]
    by_cases k : b ≤ a
    · rw [if_pos k, if_neg (by omega)]
    · rw [if_neg k, if_pos (by omega)]
  by_cases e12 : c = -12
  · rw [e12, tgl_12, kpl_12, max_f]
  by_cases e11 : c = -11
  · rw [e11, tgl_11, kpl_11]
    rfl
  by_cases e10 : c = -10
  · rw [e10, tgl_10, kpl_10]
    by_cases k : b = 0
    · rw [if_pos k]
      unfold flo
      rw [if_pos k]
    · rw [if_neg k, w_flK ha hb k]
      rfl
  obtain ⟨a1, a2⟩ := ha
  obtain ⟨b1, b2⟩ := hb
  by_cases e9 : c = -9
  · rw [e9, tgl_9, kpl_9, gd, if_pos (jR_iff.mpr (by omega)), clp_j]
  by_cases e8 : c = -8
  · rw [e8, tgl_8, kpl_8, gd, if_pos (jR_iff.mpr (by omega)), clp_j]
  by_cases e7 : c = -7
  · rw [e7, tgl_7, kpl_7, gd, if_pos (jR_iff.mpr (by omega)), clp_j]
  unfold iJudge_together kOp
  rw [if_neg e17, if_neg e16, if_neg e14, if_neg e13, if_neg e12, if_neg e11, if_neg e10, if_neg e9, if_neg e8, if_neg e7, if_neg e7, if_neg e8, if_neg e9, if_neg e10, if_neg (show ¬ (c = -11 ∨ c = -16) by omega), if_neg (show ¬ (c = -12 ∨ c = -17) by omega), if_neg e13, if_neg e14]
  by_cases k : a = b
  · rw [if_pos k, if_pos k]
  · rw [if_neg k, if_neg k]
