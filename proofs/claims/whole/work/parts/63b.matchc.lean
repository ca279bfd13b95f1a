set_option maxHeartbeats 4000000
set_option maxRecDepth 100000
/-! the best matching is one alone -/
/-- of the rows 10 - n .. 9 -/
def mS (f : Nat → Int) : Nat → Int
  | 0 => 0
  | n + 1 => f (9 - n) + mS f n
def mVal (lim : Int) (F : Nat → Nat → Int) (m : Nat → Int) : Prop := (∀ r, r < 10 → m r = -1 ∨ ∃ j : Nat, j < 10 ∧ m r = j ∧ F r j ≤ lim) ∧ ∀ r q, r < 10 → q < 10 → m r ≠ -1 → m r = m q → r = q
def mV (F : Nat → Nat → Int) (m : Nat → Int) : Nat → Int := mS (fun r => if m r = -1 then 0 else 100000 - F r (m r).toNat)
def mN (m : Nat → Int) : Nat → Int := mS (fun r => if m r = -1 then 0 else 1)
def mQ (F : Nat → Nat → Int) (m : Nat → Int) : Nat → Int := mS (fun r => if m r = -1 then 0 else F r (m r).toNat)
def mDg (m : Nat → Int) (r : Nat) : Int := if m r = -1 then 0 else m r - 10
def mZ (m : Nat → Int) : Nat → Int
  | 0 => 0
  | n + 1 => mDg m (9 - n) * 11 ^ n + mZ m n
def mCost (F : Nat → Nat → Int) (m : Nat → Int) (n : Nat) : Int := 25937424601 * (mQ F m n - 5002 * mN m n) + mZ m n
theorem mVq (F : Nat → Nat → Int) (m : Nat → Int) : ∀ n, mV F m n = 100000 * mN m n - mQ F m n
  | 0 => rfl
  | n + 1 => by
    have ih := mVq F m n
    unfold mV mN mQ at ih ⊢
    unfold mS
    split <;> omega
theorem mDg_b {lim : Int} {F : Nat → Nat → Int} {m : Nat → Int} (h : mVal lim F m) {r : Nat} (hr : r < 10) : -10 ≤ mDg m r ∧ mDg m r ≤ 0 := by
  unfold mDg
  rcases h.1 r hr with e | ⟨j, a, b, c⟩
  · rw [if_pos e]
    omega
  · rw [if_neg (by omega)]
    omega
theorem mZ_b {lim : Int} {F : Nat → Nat → Int} {m : Nat → Int} (h : mVal lim F m) : ∀ n, n ≤ 10 → -((11 : Int) ^ n - 1) ≤ mZ m n ∧ mZ m n ≤ 0
  | 0, _ => by
    show -((1 : Int) - 1) ≤ 0 ∧ (0 : Int) ≤ 0
    omega
  | n + 1, hn => by
    have ih := mZ_b h n (by omega)
    have d := mDg_b h (r := 9 - n) (by omega)
    have w : (0 : Int) < 11 ^ n := Int.pow_pos (by omega)
    have m1 := Int.mul_le_mul_of_nonneg_right d.1 (Int.le_of_lt w)
    have m2 := Int.mul_le_mul_of_nonneg_right d.2 (Int.le_of_lt w)
    show -((11 : Int) ^ n * 11 - 1) ≤ mDg m (9 - n) * 11 ^ n + mZ m n ∧ mDg m (9 - n) * 11 ^ n + mZ m n ≤ 0
    omega
theorem mNQ_b {lim : Int} {F : Nat → Nat → Int} {m : Nat → Int} (hok : mOk lim F) (h : mVal lim F m) : ∀ n, n ≤ 10 → 0 ≤ mN m n ∧ mN m n ≤ n ∧ 0 ≤ mQ F m n ∧ mQ F m n ≤ 500 * mN m n
  | 0, _ => by
    show (0 : Int) ≤ 0 ∧ (0 : Int) ≤ ((0 : Nat) : Int) ∧ (0 : Int) ≤ 0 ∧ (0 : Int) ≤ 500 * 0
    omega
  | n + 1, hn => by
    have ih := mNQ_b hok h n (by omega)
    unfold mN mQ at ih ⊢
    unfold mS
    rcases h.1 (9 - n) (by omega) with e | ⟨j, a, b, c⟩
    · rw [if_pos e, if_pos e]
      omega
    · have d := hok.2 (9 - n) j (by omega) a
      have l := hok.1
      have ej : (m (9 - n)).toNat = j := by omega
      rw [if_neg (by omega), if_neg (by omega), ej]
      omega
/-- equal digits -/
theorem mZ_eq {lim : Int} {F : Nat → Nat → Int} {m q : Nat → Int} (h : mVal lim F m) (k : mVal lim F q) : ∀ n, n ≤ 10 → mZ m n = mZ q n → ∀ r, 10 - n ≤ r → r < 10 → m r = q r
  | 0, _, _, r, h1, h2 => by omega
  | n + 1, hn, e, r, h1, h2 => by
    have a := mZ_b h n (by omega)
    have b := mZ_b k n (by omega)
    have da := mDg_b h (r := 9 - n) (by omega)
    have db := mDg_b k (r := 9 - n) (by omega)
    have w : (0 : Int) < 11 ^ n := Int.pow_pos (by omega)
    have e2 : mDg m (9 - n) * 11 ^ n + mZ m n = mDg q (9 - n) * 11 ^ n + mZ q n := e
    have e3 : mDg m (9 - n) = mDg q (9 - n) := by
      rcases Int.lt_trichotomy (mDg m (9 - n)) (mDg q (9 - n)) with t | t | t
      · have := Int.mul_le_mul_of_nonneg_right (show mDg m (9 - n) + 1 ≤ mDg q (9 - n) by omega) (Int.le_of_lt w)
        rw [Int.add_mul, Int.one_mul] at this
        omega
      · exact t
      · have := Int.mul_le_mul_of_nonneg_right (show mDg q (9 - n) + 1 ≤ mDg m (9 - n) by omega) (Int.le_of_lt w)
        rw [Int.add_mul, Int.one_mul] at this
        omega
    rw [e3] at e2
    by_cases hr : r = 9 - n
    · subst hr
      unfold mDg at e3
      rcases h.1 (9 - n) (by omega) with x | ⟨j, x1, x2, x3⟩ <;> rcases k.1 (9 - n) (by omega) with y | ⟨l, y1, y2, y3⟩
      · omega
      · rw [if_pos x, if_neg (by omega)] at e3
        omega
      · rw [if_neg (by omega), if_pos y] at e3
        omega
      · rw [if_neg (by omega), if_neg (by omega)] at e3
        omega
    · exact mZ_eq h k n (by omega) (by omega) r (by omega) h2
/-- no matching is worth more than the table says -/
theorem mV_le {lim : Int} {F : Nat → Nat → Int} {m : Nat → Int} (h : mVal lim F m) : ∀ n, n ≤ 10 → ∀ s : Nat, (∀ r, 10 - n ≤ r → r < 10 → m r ≠ -1 → s.testBit (m r).toNat = false) → mV F m n ≤ mB lim F n s
  | 0, _, s, _ => Int.le_refl 0
  | n + 1, hn, s, hs => by
    obtain ⟨h1, h2, h3⟩ := mMx_s (fun j => mB lim F n (s ||| 1 <<< j) + 100000 - F (9 - n) j) (mC lim F (9 - n) s) (mB lim F n s) 10
    have hm : mB lim F (n + 1) s = mMx (fun j => mB lim F n (s ||| 1 <<< j) + 100000 - F (9 - n) j) (mC lim F (9 - n) s) (mB lim F n s) 10 := rfl
    have hv : mV F m (n + 1) = (if m (9 - n) = -1 then 0 else 100000 - F (9 - n) (m (9 - n)).toNat) + mV F m n := rfl
    rw [hm, hv]
    rcases h.1 (9 - n) (by omega) with e | ⟨j, a, b, c⟩
    · have ih := mV_le h n (by omega) s (fun r hr1 hr2 => hs r (by omega) hr2)
      rw [if_pos e]
      omega
    · have ej : (m (9 - n)).toNat = j := by omega
      have hb := hs (9 - n) (by omega) (by omega) (by omega)
      rw [ej] at hb
      have ih := mV_le h n (by omega) (s ||| 1 <<< j) (fun r hr1 hr2 hr3 => by
        rw [mTb, hs r (by omega) hr2 hr3, Bool.false_or]
        refine decide_eq_false (fun e => ?_)
        rcases h.1 r hr2 with x | ⟨l, x1, x2, x3⟩
        · exact hr3 x
        · have : m r = m (9 - n) := by omega
          have := h.2 r (9 - n) hr2 (by omega) hr3 this
          omega)
      have hc : mC lim F (9 - n) s j = true := by
        unfold mC
        rw [decide_eq_true c, hb]
        rfl
      have := h2 j a hc
      have g : (fun j => mB lim F n (s ||| 1 <<< j) + 100000 - F (9 - n) j) j = mB lim F n (s ||| 1 <<< j) + 100000 - F (9 - n) j := rfl
      rw [if_neg (by omega), ej]
      omega
/-- the reference's choice is a matching, and worth what the table says -/
theorem mR_val {lim : Int} {F : Nat → Nat → Int} {mt : Nat → Int} {σ : Nat → Nat} (h0 : σ 0 = 0) (h : ∀ i, i < 10 → (mt i = -1 ∧ (∀ j, j < 10 → ¬ mG lim F i (σ i) j) ∧ σ (i + 1) = σ i) ∨ ∃ j : Nat, j < 10 ∧ mt i = j ∧ mG lim F i (σ i) j ∧ (∀ k, k < j → ¬ mG lim F i (σ i) k) ∧ σ (i + 1) = σ i ||| 1 <<< j) : mVal lim F mt := by
  have bits : ∀ i, i ≤ 10 → ∀ r, r < i → mt r ≠ -1 → (σ i).testBit (mt r).toNat = true := by
    intro i
    induction i with
    | zero => intro _ r hr; omega
    | succ i ih =>
      intro hi r hr hne
      rcases h i (by omega) with ⟨a1, a2, a3⟩ | ⟨j, a1, a2, a3, a4, a5⟩
      · rw [a3]
        by_cases e : r = i
        · rw [e] at hne
          exact absurd a1 hne
        · exact ih (by omega) r (by omega) hne
      · rw [a5, mTb]
        by_cases e : r = i
        · rw [e, show (mt i).toNat = j by omega]
          simp
        · rw [ih (by omega) r (by omega) hne]
          rfl
  have lt : ∀ r q, r < q → q < 10 → mt r ≠ -1 → mt r = mt q → False := fun r q h1 h2 h3 h4 => by
    have b := bits q (by omega) r h1 h3
    rcases h q h2 with ⟨a1, a2, a3⟩ | ⟨j, a1, a2, a3, a4, a5⟩
    · omega
    · have c := (mC_f a3.1).2
      rw [h4, show (mt q).toNat = j by omega, c] at b
      cases b
  refine ⟨fun r hr => ?_, fun r q hr hq hne he => ?_⟩
  · rcases h r hr with ⟨a1, a2, a3⟩ | ⟨j, a1, a2, a3, a4, a5⟩
    · exact Or.inl a1
    · exact Or.inr ⟨j, a1, a2, (mC_f a3.1).1⟩
  · rcases Nat.lt_trichotomy r q with t | t | t
    · exact (lt r q t hq hne he).elim
    · exact t
    · exact (lt q r t hr (by omega) he.symm).elim
theorem mR_V {lim : Int} {F : Nat → Nat → Int} {mt : Nat → Int} {σ : Nat → Nat} (h : ∀ i, i < 10 → (mt i = -1 ∧ (∀ j, j < 10 → ¬ mG lim F i (σ i) j) ∧ σ (i + 1) = σ i) ∨ ∃ j : Nat, j < 10 ∧ mt i = j ∧ mG lim F i (σ i) j ∧ (∀ k, k < j → ¬ mG lim F i (σ i) k) ∧ σ (i + 1) = σ i ||| 1 <<< j) : ∀ n, n ≤ 10 → mV F mt n = mB lim F n (σ (10 - n))
  | 0, _ => rfl
  | n + 1, hn => by
    have ih := mR_V h n (by omega)
    have hv : mV F mt (n + 1) = (if mt (9 - n) = -1 then 0 else 100000 - F (9 - n) (mt (9 - n)).toNat) + mV F mt n := rfl
    rw [hv, ih, show 10 - (n + 1) = 9 - n by omega, show 10 - n = 9 - n + 1 by omega]
    rcases h (9 - n) (by omega) with ⟨a1, a2, a3⟩ | ⟨j, a1, a2, a3, a4, a5⟩
    · rw [if_pos a1, a3]
      obtain ⟨h1, h2, h3⟩ := mMx_s (fun j => mB lim F n (σ (9 - n) ||| 1 <<< j) + 100000 - F (9 - n) j) (mC lim F (9 - n) (σ (9 - n))) (mB lim F n (σ (9 - n))) 10
      have hm : mB lim F (n + 1) (σ (9 - n)) = mMx (fun j => mB lim F n (σ (9 - n) ||| 1 <<< j) + 100000 - F (9 - n) j) (mC lim F (9 - n) (σ (9 - n))) (mB lim F n (σ (9 - n))) 10 := rfl
      rcases h3 with h3 | ⟨j, b1, b2, b3⟩
      · rw [hm, h3]
        omega
      · refine absurd ⟨b2, ?_⟩ (a2 j b1)
        rw [show 9 - (9 - n) = n by omega, show 10 - (9 - n) = n + 1 by omega, hm, b3]
    · have g := a3.2
      rw [show 9 - (9 - n) = n by omega, show 10 - (9 - n) = n + 1 by omega] at g
      rw [if_neg (by omega), show (mt (9 - n)).toNat = j by omega, a5]
      omega
/-- and of all that are worth as much its digits are the least -/
theorem mR_lex {lim : Int} {F : Nat → Nat → Int} {mt m : Nat → Int} {σ : Nat → Nat} (h0 : σ 0 = 0) (h : ∀ i, i < 10 → (mt i = -1 ∧ (∀ j, j < 10 → ¬ mG lim F i (σ i) j) ∧ σ (i + 1) = σ i) ∨ ∃ j : Nat, j < 10 ∧ mt i = j ∧ mG lim F i (σ i) j ∧ (∀ k, k < j → ¬ mG lim F i (σ i) k) ∧ σ (i + 1) = σ i ||| 1 <<< j) (hm : mVal lim F m) : ∀ n, n ≤ 10 → (∀ r, 10 - n ≤ r → r < 10 → m r ≠ -1 → (σ (10 - n)).testBit (m r).toNat = false) → mV F m n = mB lim F n (σ (10 - n)) → mZ mt n ≤ mZ m n
  | 0, _, _, _ => Int.le_refl 0
  | n + 1, hn, hs, hv => by
    have hr := mR_val h0 h
    have da := mDg_b hr (r := 9 - n) (by omega)
    have db := mDg_b hm (r := 9 - n) (by omega)
    have ba := mZ_b hr n (by omega)
    have bb := mZ_b hm n (by omega)
    have w : (0 : Int) < 11 ^ n := Int.pow_pos (by omega)
    rw [show 10 - (n + 1) = 9 - n by omega] at hs hv
    have hv2 : mV F m (n + 1) = (if m (9 - n) = -1 then 0 else 100000 - F (9 - n) (m (9 - n)).toNat) + mV F m n := rfl
    have hB : mB lim F (n + 1) (σ (9 - n)) = mMx (fun j => mB lim F n (σ (9 - n) ||| 1 <<< j) + 100000 - F (9 - n) j) (mC lim F (9 - n) (σ (9 - n))) (mB lim F n (σ (9 - n))) 10 := rfl
    obtain ⟨h1, h2, h3⟩ := mMx_s (fun j => mB lim F n (σ (9 - n) ||| 1 <<< j) + 100000 - F (9 - n) j) (mC lim F (9 - n) (σ (9 - n))) (mB lim F n (σ (9 - n))) 10
    have step : ∀ s : Nat, σ (10 - n) = s → (∀ r, 10 - n ≤ r → r < 10 → m r ≠ -1 → s.testBit (m r).toNat = false) → mV F m n = mB lim F n s → mZ mt n ≤ mZ m n := fun s e a b => mR_lex h0 h hm n (by omega) (by rw [e]; exact a) (by rw [e]; exact b)
    have less : mDg mt (9 - n) + 1 ≤ mDg m (9 - n) → mZ mt (n + 1) ≤ mZ m (n + 1) := fun t => by
      have := Int.mul_le_mul_of_nonneg_right t (Int.le_of_lt w)
      rw [Int.add_mul, Int.one_mul] at this
      show mDg mt (9 - n) * 11 ^ n + mZ mt n ≤ mDg m (9 - n) * 11 ^ n + mZ m n
      omega
    have same : mDg mt (9 - n) = mDg m (9 - n) → mZ mt n ≤ mZ m n → mZ mt (n + 1) ≤ mZ m (n + 1) := fun t u => by
      show mDg mt (9 - n) * 11 ^ n + mZ mt n ≤ mDg m (9 - n) * 11 ^ n + mZ m n
      rw [t]
      omega
    have tail : ∀ r, 10 - n ≤ r → r < 10 → m r ≠ -1 → (σ (9 - n)).testBit (m r).toNat = false := fun r a b => hs r (by omega) b
    have h10 : 10 - n = 9 - n + 1 := by omega
    rcases hm.1 (9 - n) (by omega) with e | ⟨j2, x1, x2, x3⟩
    · -- this one leaves the row alone
      rw [hv2, if_pos e] at hv
      have ub := mV_le hm n (by omega) (σ (9 - n)) tail
      have eqv : mV F m n = mB lim F n (σ (9 - n)) := by omega
      rcases h (9 - n) (by omega) with ⟨a1, a2, a3⟩ | ⟨j, a1, a2, a3, a4, a5⟩
      · refine same ?_ (step _ (by rw [h10]; exact a3) tail eqv)
        unfold mDg
        rw [if_pos a1, if_pos e]
      · refine less ?_
        unfold mDg
        rw [if_neg (by omega), if_pos e]
        omega
    · have ej : (m (9 - n)).toNat = j2 := by omega
      have hb := hs (9 - n) (by omega) (by omega) (by omega)
      rw [ej] at hb
      have tail2 : ∀ r, 10 - n ≤ r → r < 10 → m r ≠ -1 → (σ (9 - n) ||| 1 <<< j2).testBit (m r).toNat = false := fun r hr1 hr2 hr3 => by
        rw [mTb, hs r (by omega) hr2 hr3, Bool.false_or]
        refine decide_eq_false (fun e => ?_)
        rcases hm.1 r hr2 with x | ⟨l, y1, y2, y3⟩
        · exact hr3 x
        · have : m r = m (9 - n) := by omega
          have := hm.2 r (9 - n) hr2 (by omega) hr3 this
          omega
      have ub := mV_le hm n (by omega) (σ (9 - n) ||| 1 <<< j2) tail2
      have hc : mC lim F (9 - n) (σ (9 - n)) j2 = true := by
        unfold mC
        rw [decide_eq_true x3, hb]
        rfl
      have g2 := h2 j2 x1 hc
      have g3 : (fun j => mB lim F n (σ (9 - n) ||| 1 <<< j) + 100000 - F (9 - n) j) j2 = mB lim F n (σ (9 - n) ||| 1 <<< j2) + 100000 - F (9 - n) j2 := rfl
      rw [hv2, if_neg (by omega), ej] at hv
      have G : mG lim F (9 - n) (σ (9 - n)) j2 := by
        refine ⟨hc, ?_⟩
        rw [show 9 - (9 - n) = n by omega, show 10 - (9 - n) = n + 1 by omega]
        omega
      rcases h (9 - n) (by omega) with ⟨a1, a2, a3⟩ | ⟨j, a1, a2, a3, a4, a5⟩
      · exact absurd G (a2 j2 x1)
      · by_cases ee : j = j2
        · subst ee
          refine same ?_ (step _ (by rw [h10]; exact a5) tail2 (by omega))
          unfold mDg
          rw [if_neg (by omega), if_neg (by omega), a2, x2]
        · have : ¬ j2 < j := fun t => a4 j2 t G
          refine less ?_
          unfold mDg
          rw [if_neg (by omega), if_neg (by omega)]
          omega
/-- one that costs no more than the reference's is the reference's -/
theorem mR_uniq {lim : Int} {F : Nat → Nat → Int} {mt m : Nat → Int} (hok : mOk lim F) (hR : mR lim F mt) (hm : mVal lim F m) (hc : mCost F m 10 ≤ mCost F mt 10) : ∀ r, r < 10 → m r = mt r := by
  obtain ⟨σ, h0, _, h⟩ := hR
  have hr := mR_val h0 h
  have z : ∀ r, 10 - 10 ≤ r → r < 10 → m r ≠ -1 → (σ (10 - 10)).testBit (m r).toNat = false := fun r _ _ _ => by
    show (σ 0).testBit _ = false
    rw [h0]
    exact Nat.zero_testBit _
  have v1 := mV_le hm 10 (Nat.le_refl 10) (σ (10 - 10)) z
  have v2 := mR_V h 10 (Nat.le_refl 10)
  have q1 := mVq F m 10
  have q2 := mVq F mt 10
  have b1 := mNQ_b hok hm 10 (Nat.le_refl 10)
  have b2 := mNQ_b hok hr 10 (Nat.le_refl 10)
  have d1 := mZ_b hm 10 (Nat.le_refl 10)
  have d2 := mZ_b hr 10 (Nat.le_refl 10)
  have w : (11 : Int) ^ 10 = 25937424601 := by decide
  rw [w] at d1 d2
  unfold mCost at hc
  have hA : mQ F mt 10 - 5002 * mN mt 10 ≤ mQ F m 10 - 5002 * mN m 10 := by omega
  have hAe : mQ F mt 10 - 5002 * mN mt 10 = mQ F m 10 - 5002 * mN m 10 := by omega
  have hV : mV F m 10 = mB lim F 10 (σ (10 - 10)) := by omega
  have lx := mR_lex h0 h hm 10 (Nat.le_refl 10) z hV
  exact fun r hr2 => mZ_eq hm hr 10 (Nat.le_refl 10) (by omega) r (by omega) hr2
