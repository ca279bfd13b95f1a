set_option maxHeartbeats 4000000
set_option maxRecDepth 100000
/-! draw, worth -/
def cV (t : Nat → Int) : Nat → Int
  | 0 => 0
  | n + 1 => cV t n + t n * cW n
def cB (t : Nat → Int) (p q : Nat) : Nat → Int := fun k => if k = q then t k - 1 else if p < k ∧ k < q then t k + cR k - 1 else if k = p then t k + cR k else t k
def cAb (t : Nat → Int) : Nat → Nat → Nat
  | 0, q => q
  | m + 1, q => if t q = 0 then cAb t m (q + 1) else q
def cDp (d : Int) (p : Nat) : Nat → (Nat → Int) → Int → Option ((Nat → Int) × Int)
  | 0, _, _ => none
  | m + 1, t, n => if d ≤ t p then some (t, n) else if cAb t (12 - p) (p + 1) < 13 then cDp d p m (cB t p (cAb t (12 - p) (p + 1))) (n + ((cAb t (12 - p) (p + 1) - p : Nat) : Int)) else none
def cDa (due : Nat → Int) : Nat → (Nat → Int) → Int → Option ((Nat → Int) × Int)
  | 0, t, n => some (t, n)
  | k + 1, t, n => match cDp (due (12 - k)) (12 - k) 100 t n with
    | none => none
    | some (u, m) => cDa due k (va_up u (12 - k) (u (12 - k) - due (12 - k))) m
theorem cAb_spec (t : Nat → Int) : ∀ (m q : Nat), q ≤ cAb t m q ∧ cAb t m q ≤ q + m ∧ (∀ j, q ≤ j → j < cAb t m q → t j = 0) ∧ (cAb t m q < q + m → t (cAb t m q) ≠ 0)
  | 0, q => ⟨Nat.le_refl q, Nat.le_refl q, fun j h1 h2 => absurd h2 (Nat.not_lt.mpr h1), fun h => absurd h (Nat.lt_irrefl q)⟩
  | m + 1, q => by
    unfold cAb
    by_cases h : t q = 0
    · rw [if_pos h]
      obtain ⟨a, b, c, d⟩ := cAb_spec t m (q + 1)
      refine ⟨by omega, by omega, fun j h1 h2 => ?_, fun h3 => d (by omega)⟩
      by_cases e : j = q
      · rw [e]; exact h
      · exact c j (by omega) h2
    · rw [if_neg h]
      exact ⟨Nat.le_refl q, by omega, fun j h1 h2 => absurd h2 (Nat.not_lt.mpr h1), fun _ => h⟩
theorem cAb_cg {t u : Nat → Int} : ∀ (m q : Nat), (∀ j, j < q + m → t j = u j) → cAb t m q = cAb u m q
  | 0, q, _ => rfl
  | m + 1, q, h => by
    unfold cAb
    rw [h q (by omega), cAb_cg m (q + 1) (fun j hj => h j (by omega))]
theorem cB_cg {t u : Nat → Int} (h : ∀ j, j < 13 → t j = u j) (p q : Nat) : ∀ j, j < 13 → cB t p q j = cB u p q j := by
  intro j hj
  unfold cB
  rw [h j hj]
theorem cB_b {t : Nat → Int} {p q : Nat} (hp : p < q) (hq : q < 13) (h : ∀ j, j < 13 → 0 ≤ t j ∧ t j ≤ 120) (hz : ∀ j, p < j → j < q → t j = 0) (hqq : t q ≠ 0) (ht : t p < 99) : ∀ j, j < 13 → 0 ≤ cB t p q j ∧ cB t p q j ≤ 120 := by
  intro j hj
  have a := h j hj
  unfold cB
  by_cases h1 : j = q
  · rw [if_pos h1]
    rw [h1] at a ⊢
    omega
  · rw [if_neg h1]
    by_cases h2 : p < j ∧ j < q
    · rw [if_pos h2]
      have b := cR_b j (by omega)
      have c := hz j h2.1 h2.2
      omega
    · rw [if_neg h2]
      by_cases h3 : j = p
      · rw [if_pos h3]
        have b := cR_b j (by omega)
        rw [← h3] at ht
        omega
      · rw [if_neg h3]
        exact a
theorem cV_cB {t : Nat → Int} {p q : Nat} (hp : p < q) (hq : q < 13) : ∀ n, n ≤ 13 → cV (cB t p q) n = cV t n + (if n ≤ p then 0 else if n ≤ q then cW n else 0)
  | 0, _ => by
    rw [if_pos (Nat.zero_le p)]
    rfl
  | n + 1, hn => by
    have ih := cV_cB (t := t) hp hq n (by omega)
    show cV (cB t p q) n + cB t p q n * cW n = cV t n + t n * cW n + _
    rw [ih]
    unfold cB
    by_cases h1 : n = q
    · subst h1
      rw [if_pos rfl, if_neg (by omega), if_pos (Nat.le_refl n), if_neg (by omega), if_neg (by omega), Int.sub_mul]
      omega
    · rw [if_neg h1]
      by_cases h2 : p < n ∧ n < q
      · rw [if_pos h2, if_neg (by omega), if_pos (by omega), if_neg (by omega), if_pos (by omega), cW_succ n (by omega), Int.sub_mul, Int.add_mul, Int.mul_comm (cR n)]
        omega
      · rw [if_neg h2]
        by_cases h3 : n = p
        · subst h3
          rw [if_pos rfl, if_pos (Nat.le_refl n), if_neg (by omega), if_pos (by omega), cW_succ n (by omega), Int.add_mul, Int.mul_comm (cR n)]
          omega
        · rw [if_neg h3]
          by_cases h4 : n < p
          · rw [if_pos (by omega), if_pos (by omega)]
            omega
          · rw [if_neg (by omega), if_neg (by omega), if_neg (by omega), if_neg (by omega)]
            omega
theorem cV_up {t : Nat → Int} {p : Nat} {x : Int} : ∀ n, cV (va_up t p x) n = cV t n + (if p < n then (x - t p) * cW p else 0)
  | 0 => by
    rw [if_neg (by omega)]
    rfl
  | n + 1 => by
    have ih := cV_up (t := t) (p := p) (x := x) n
    show cV (va_up t p x) n + va_up t p x n * cW n = cV t n + t n * cW n + _
    rw [ih]
    by_cases h : p = n
    · subst h
      rw [va_up_self, if_neg (by omega), if_pos (by omega), Int.sub_mul]
      omega
    · rw [va_up_ne _ _ (fun e => h e.symm)]
      by_cases h2 : p < n
      · rw [if_pos h2, if_pos (by omega)]
        omega
      · rw [if_neg h2, if_neg (by omega)]
        omega
theorem cV_nn {t : Nat → Int} (h : ∀ j, j < 13 → 0 ≤ t j) : ∀ n, n ≤ 13 → 0 ≤ cV t n
  | 0, _ => Int.le_refl 0
  | n + 1, hn => by
    have ih := cV_nn h n (by omega)
    have a := Int.mul_nonneg (h n (by omega)) (Int.le_of_lt (cW_pos n (by omega)))
    show 0 ≤ cV t n + t n * cW n
    omega
theorem cV_cg {t u : Nat → Int} : ∀ n, (∀ j, j < n → t j = u j) → cV t n = cV u n
  | 0, _ => rfl
  | n + 1, h => by
    show cV t n + t n * cW n = cV u n + u n * cW n
    rw [cV_cg n (fun j hj => h j (by omega)), h n (by omega)]
theorem cV_P (s : Int) : ∀ n, n ≤ 13 → cV (cP s) n = cRest s (13 - n)
  | 0, _ => by
    show (0 : Int) = cRest s 12 % 1
    omega
  | n + 1, hn => by
    show cV (cP s) n + cP s n * cW n = _
    rw [cV_P s n (by omega), cRest_succ n (by omega), show 13 - (n + 1) = 12 - n by omega]
    have := Int.emod_add_mul_ediv (cRest s (12 - n)) (cW n)
    rw [Int.mul_comm] at this
    exact this
theorem cDp_cg (d : Int) {p : Nat} (hp : p < 13) : ∀ (m : Nat) (t u : Nat → Int) (n : Int), (∀ j, j < 13 → t j = u j) → (cDp d p m t n = none ∧ cDp d p m u n = none) ∨ ∃ t2 u2 n2, cDp d p m t n = some (t2, n2) ∧ cDp d p m u n = some (u2, n2) ∧ ∀ j, j < 13 → t2 j = u2 j
  | 0, t, u, n, _ => Or.inl ⟨rfl, rfl⟩
  | m + 1, t, u, n, h => by
    unfold cDp
    rw [h p hp, cAb_cg (t := t) (u := u) (12 - p) (p + 1) (fun j hj => h j (by omega))]
    by_cases h1 : d ≤ u p
    · rw [if_pos h1, if_pos h1]
      exact Or.inr ⟨t, u, n, rfl, rfl, h⟩
    · rw [if_neg h1, if_neg h1]
      by_cases h2 : cAb u (12 - p) (p + 1) < 13
      · rw [if_pos h2, if_pos h2]
        exact cDp_cg d hp m _ _ _ (cB_cg h p _)
      · rw [if_neg h2, if_neg h2]
        exact Or.inl ⟨rfl, rfl⟩
theorem cDa_cg (due : Nat → Int) : ∀ (k : Nat) (t u : Nat → Int) (n : Int), (∀ j, j < 13 → t j = u j) → (cDa due k t n = none ∧ cDa due k u n = none) ∨ ∃ t2 u2 n2, cDa due k t n = some (t2, n2) ∧ cDa due k u n = some (u2, n2) ∧ ∀ j, j < 13 → t2 j = u2 j
  | 0, t, u, n, h => Or.inr ⟨t, u, n, rfl, rfl, h⟩
  | k + 1, t, u, n, h => by
    unfold cDa
    rcases cDp_cg (due (12 - k)) (p := 12 - k) (by omega) 100 t u n h with ⟨e1, e2⟩ | ⟨t2, u2, n2, e1, e2, e3⟩
    · rw [e1, e2]
      exact Or.inl ⟨rfl, rfl⟩
    · rw [e1, e2]
      refine cDa_cg due k _ _ _ (fun j hj => ?_)
      by_cases h3 : j = 12 - k
      · rw [h3, va_up_self, va_up_self, e3 _ (by omega)]
      · rw [va_up_ne _ _ h3, va_up_ne _ _ h3]
        exact e3 j hj
theorem cDp_ok {d : Int} {p : Nat} (hp : p < 13) (hd : d ≤ 99) : ∀ (m : Nat) (t : Nat → Int) (n : Int) (t2 : Nat → Int) (n2 : Int), (∀ j, j < 13 → 0 ≤ t j ∧ t j ≤ 120) → cDp d p m t n = some (t2, n2) → (∀ j, j < 13 → 0 ≤ t2 j ∧ t2 j ≤ 120) ∧ d ≤ t2 p ∧ cV t2 13 = cV t 13
  | 0, t, n, t2, n2, _, e => by cases e
  | m + 1, t, n, t2, n2, h, e => by
    unfold cDp at e
    by_cases h1 : d ≤ t p
    · rw [if_pos h1] at e
      cases e
      exact ⟨h, h1, rfl⟩
    · rw [if_neg h1] at e
      by_cases h2 : cAb t (12 - p) (p + 1) < 13
      · rw [if_pos h2] at e
        obtain ⟨a1, a2, a3, a4⟩ := cAb_spec t (12 - p) (p + 1)
        have b := cB_b (t := t) (p := p) (q := cAb t (12 - p) (p + 1)) (by omega) h2 h (fun j h3 h4 => a3 j (by omega) h4) (a4 (by omega)) (by omega)
        obtain ⟨c1, c2, c3⟩ := cDp_ok hp hd m _ _ t2 n2 b e
        refine ⟨c1, c2, ?_⟩
        rw [c3, cV_cB (by omega) h2 13 (by omega), if_neg (by omega), if_neg (by omega)]
        omega
      · rw [if_neg h2] at e
        cases e
theorem cDa_ok {due : Nat → Int} (hd : ∀ j, j < 13 → 0 ≤ due j ∧ due j ≤ 99) : ∀ (k : Nat) (t : Nat → Int) (n : Int) (t2 : Nat → Int) (n2 : Int), k ≤ 13 → (∀ j, j < 13 → 0 ≤ t j ∧ t j ≤ 120) → cDa due k t n = some (t2, n2) → (∀ j, j < 13 → 0 ≤ t2 j ∧ t2 j ≤ 120) ∧ cV t2 13 + cV due 13 = cV t 13 + cV due (13 - k)
  | 0, t, n, t2, n2, _, h, e => by
    cases e
    exact ⟨h, rfl⟩
  | k + 1, t, n, t2, n2, hk, h, e => by
    unfold cDa at e
    cases e1 : cDp (due (12 - k)) (12 - k) 100 t n with
    | none =>
      rw [e1] at e
      cases e
    | some r =>
      obtain ⟨u, m⟩ := r
      rw [e1] at e
      obtain ⟨a1, a2, a3⟩ := cDp_ok (by omega) (hd (12 - k) (by omega)).2 100 t n u m h e1
      have g := hd (12 - k) (by omega)
      obtain ⟨b1, b2⟩ := cDa_ok hd k _ _ t2 n2 (by omega) (fun j hj => by
        by_cases h3 : j = 12 - k
        · rw [h3, va_up_self]
          have := a1 (12 - k) (by omega)
          omega
        · rw [va_up_ne _ _ h3]
          exact a1 j hj) e
      refine ⟨b1, ?_⟩
      rw [b2, cV_up, if_pos (by omega), a3, show 13 - k = (12 - k) + 1 by omega, show 13 - (k + 1) = 12 - k by omega]
      show _ + (cV due (12 - k) + due (12 - k) * cW (12 - k)) = _
      rw [show u (12 - k) - due (12 - k) - u (12 - k) = -due (12 - k) by omega, Int.neg_mul]
      omega
theorem w_total {N : Nat} (hN : 5000 ≤ N) {l : Nat → Int} (hl : ∀ p, p < 13 → 0 ≤ l p ∧ l p ≤ 99) : wp (iCounters_total N l) (fun r => r = cV l 13) := by
  unfold iCounters_total iCounters_total_b4
  refine wp_zlp2 (fun (k : Nat) (x1 x3 : Int) => ∃ p : Nat, x3 = p ∧ p + k = 13 ∧ x1 = cV l p ∧ x1 ≤ 1200000000 * p) ?_ N 13 0 0 (by omega) ⟨0, rfl, rfl, rfl, by omega⟩
  intro self k x1 x3 ⟨p, e1, e2, e3, e4⟩ ih
  subst e1
  have ep : (p : Int).toNat = p := rfl
  unfold iCounters_total_b4_F
  have nn := cV_nn (fun p hp => (hl p hp).1) p (by omega)
  cases k with
  | zero =>
    rw [if_pos (by omega), wp_some, e3, show p = 13 by omega]
  | succ k =>
    have a := hl p (by omega)
    have w1 := cW_pos p (by omega)
    have w2 := cW_le p (by omega)
    have m1 : 0 ≤ l p * cW p := Int.mul_nonneg a.1 (by omega)
    have m2 : l p * cW p ≤ 99 * 12000000 := Int.mul_le_mul a.2 w2 (by omega) (by omega)
    have f4 : jc0.getD p 0 = cW p := rfl
    rw [if_neg (by omega)]
    simp only [wp_gd, jb_iff, jr_iff, jR_iff, ep, f4]
    exact ⟨by omega, by omega, by omega, by omega, ih k _ _ (Nat.lt_succ_self k) ⟨p + 1, by omega, by omega, by rw [e3]; rfl, by omega⟩⟩
theorem w_worth {N : Nat} (hN : 5000 ≤ N) {l ra : Nat → Int} (hr : ∀ k, k < 12 → ra k = cR k) (hl : ∀ p, p < 13 → 0 ≤ l p ∧ l p ≤ 99) : wp (iM_worth N l ra) (fun r => r = cV l 13) := by
  unfold iM_worth iM_worth_b4
  refine wp_zlp2 (fun (k : Nat) (x1 x3 : Int) => ∃ p : Nat, x3 = p ∧ p + k = 13 ∧ x1 = cV l p ∧ x1 ≤ 1200000000 * p) ?_ N 13 0 0 (by omega) ⟨0, rfl, rfl, rfl, by omega⟩
  intro self k x1 x3 ⟨p, e1, e2, e3, e4⟩ ih
  subst e1
  have ep : (p : Int).toNat = p := rfl
  unfold iM_worth_b4_F
  have nn := cV_nn (fun p hp => (hl p hp).1) p (by omega)
  cases k with
  | zero =>
    rw [if_pos (by omega), wp_some, e3, show p = 13 by omega]
  | succ k =>
    have a := hl p (by omega)
    have w1 := cW_pos p (by omega)
    have w2 := cW_le p (by omega)
    have m1 : 0 ≤ l p * cW p := Int.mul_nonneg a.1 (by omega)
    have m2 : l p * cW p ≤ 99 * 12000000 := Int.mul_le_mul a.2 w2 (by omega) (by omega)
    rw [if_neg (by omega), wp_gd, wp_bd1]
    refine ⟨jb_iff.mpr (by omega), wp_mono (w_value hN hr (by omega) (by omega)) (fun r hr1 => ?_)⟩
    rw [ep] at hr1
    subst hr1
    simp only [wp_gd, jr_iff, jR_iff, ep]
    exact ⟨by omega, by omega, by omega, ih k _ _ (Nat.lt_succ_self k) ⟨p + 1, by omega, by omega, by rw [e3]; rfl, by omega⟩⟩
