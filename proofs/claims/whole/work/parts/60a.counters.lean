set_option maxHeartbeats 4000000
set_option maxRecDepth 100000
/-! the cloth, in Int: class and reference -/
def cW (p : Nat) : Int := jc0.getD p 0
def cR (p : Nat) : Int := jc1.getD p 0
def cRest (s : Int) : Nat → Int
  | 0 => s
  | n + 1 => cRest s n % cW (12 - n)
def cP (s : Int) (p : Nat) : Int := cRest s (12 - p) / cW p
theorem cW_pos : ∀ p, p < 13 → 0 < cW p := by decide
theorem cW_le : ∀ p, p < 13 → cW p ≤ 12000000 := by decide
theorem cW_succ : ∀ p, p < 12 → cW (p + 1) = cW p * cR p := by decide
theorem cR_b : ∀ p, p < 12 → 2 ≤ cR p ∧ cR p ≤ 10 := by decide
theorem cRest_nn {s : Int} (h : 0 ≤ s) : ∀ n, n ≤ 13 → 0 ≤ cRest s n
  | 0, _ => h
  | n + 1, hn => Int.emod_nonneg _ (Int.ne_of_gt (cW_pos (12 - n) (by omega)))
theorem cRest_lt {s : Int} (n : Nat) (hn : n < 13) : cRest s (n + 1) < cW (12 - n) := Int.emod_lt_of_pos _ (cW_pos (12 - n) (by omega))
theorem cRest_le {s : Int} (h : 0 ≤ s) (h1 : s ≤ 1000000000) : ∀ n, n ≤ 13 → cRest s n ≤ 1000000000
  | 0, _ => h1
  | n + 1, hn => by
    have a := cRest_lt (s := s) n (by omega)
    have b := cW_le (12 - n) (by omega)
    omega
theorem cP_nn {s : Int} (h : 0 ≤ s) (p : Nat) (hp : p < 13) : 0 ≤ cP s p := Int.ediv_nonneg (cRest_nn h _ (by omega)) (Int.le_of_lt (cW_pos p hp))
theorem cP_lt {s : Int} (p : Nat) (hp : p < 12) : cP s p < cR p := by
  have a := cRest_lt (s := s) (11 - p) (by omega)
  rw [show 11 - p + 1 = 12 - p by omega, show 12 - (11 - p) = p + 1 by omega, cW_succ p hp] at a
  exact Int.ediv_lt_of_lt_mul (cW_pos p (by omega)) (by rw [Int.mul_comm]; exact a)
theorem cP_le {s : Int} (h : 0 ≤ s) (h1 : s ≤ 1000000000) (p : Nat) (hp : p < 13) : cP s p ≤ 99 := by
  by_cases e : p = 12
  · subst e
    show s / 12000000 ≤ 99
    omega
  · have a := cP_lt (s := s) p (by omega)
    have b := (cR_b p (by omega)).2
    omega
theorem cRest_succ {s : Int} (p : Nat) (hp : p < 13) : cRest s (13 - p) = cRest s (12 - p) % cW p := by
  rw [show 13 - p = (12 - p) + 1 by omega]
  show cRest s (12 - p) % cW (12 - (12 - p)) = _
  rw [show 12 - (12 - p) = p by omega]
theorem w_isPlace {a : Int} {Q : Int → Prop} : wp (iCounters_isPlace a) Q ↔ ((0 ≤ a ∧ a < 13) → Q 1) ∧ (¬ (0 ≤ a ∧ a < 13) → Q 0) := by
  unfold iCounters_isPlace
  simp only [wp_ite, wp_some]
  constructor
  · intro h
    refine ⟨fun k => (h.2 (by omega)).2 (by omega), fun k => ?_⟩
    by_cases h1 : a < 0
    · exact h.1 h1
    · exact (h.2 h1).1 (by omega)
  · intro h
    exact ⟨fun k => h.2 (by omega), fun k => ⟨fun k2 => h.2 (by omega), fun k2 => h.1 (by omega)⟩⟩
theorem w_isIn {a b c : Int} {Q : Int → Prop} : wp (iM_isIn a b c) Q ↔ ((b ≤ a ∧ a ≤ c) → Q 1) ∧ (¬ (b ≤ a ∧ a ≤ c) → Q 0) := by
  unfold iM_isIn
  simp only [wp_ite, wp_some]
  constructor
  · intro h
    refine ⟨fun k => (h.2 (by omega)).2 (by omega), fun k => ?_⟩
    by_cases h1 : a < b
    · exact h.1 h1
    · exact (h.2 h1).1 (by omega)
  · intro h
    exact ⟨fun k => h.2 (by omega), fun k => ⟨fun k2 => h.2 (by omega), fun k2 => h.1 (by omega)⟩⟩
theorem w_tellPlain {N : Nat} (hN : 5000 ≤ N) {s : Int} {v : Nat → Int} (h0 : 0 ≤ s) (h1 : s ≤ 1000000000) : wp (iCounters_tellPlain N s v) (fun r => r.1 = 1 ∧ ∀ k, k < 13 → r.2 k = cP s k) := by
  unfold iCounters_tellPlain
  rw [if_neg (by omega), if_pos h1]
  refine wp_zlp3 (fun (k : Nat) (x2 x3 : Int) (d : Nat → Int) => x3 = (k : Int) - 1 ∧ k ≤ 13 ∧ x2 = cRest s (13 - k) ∧ ∀ j, k ≤ j → j < 13 → d j = cP s j) ?_ N 13 s 12 v (by omega) ⟨rfl, Nat.le_refl _, rfl, fun j h h2 => by omega⟩
  intro self k x2 x3 d ⟨e1, e2, e3, e4⟩ ih
  unfold iCounters_tellPlain_b17_F
  cases k with
  | zero =>
    rw [if_pos (by omega), wp_some]
    exact ⟨rfl, fun k hk => e4 k (by omega) hk⟩
  | succ m =>
    have ex : x3.toNat = m := by omega
    have em : cRest s (13 - (m + 1)) = cRest s (12 - m) := by rw [show 13 - (m + 1) = 12 - m by omega]
    have p1 := cRest_nn h0 (12 - m) (by omega)
    have p2 := cRest_le h0 h1 (12 - m) (by omega)
    have w1 := cW_pos m (by omega)
    have b1 := cP_nn h0 m (by omega)
    have b2 := cP_le h0 h1 m (by omega)
    have ed : x2.tdiv (jc0.getD x3.toNat 0) = cP s m := by rw [ex, e3, em, Int.tdiv_eq_ediv_of_nonneg p1]; rfl
    have et : x2.tmod (jc0.getD x3.toNat 0) = cRest s (13 - m) := by rw [ex, e3, em, Int.tmod_eq_emod_of_nonneg p1, cRest_succ m (by omega)]; rfl
    rw [if_neg (by omega)]
    simp only [wp_ite, wp_gd, wp_some, jb_iff, jr_iff, jn_iff, ed, et, va_up_self]
    refine ⟨by omega, ?_, by omega, fun _ => ⟨by omega, ?_⟩, fun h => by omega⟩
    · rw [ex]
      show cW m ≠ 0
      omega
    · refine ih m _ _ _ (Nat.lt_succ_self m) ⟨by omega, by omega, rfl, fun j h h2 => ?_⟩
      rw [ex]
      by_cases hj : j = m
      · rw [hj, va_up_self]
      · rw [va_up_ne _ _ hj]
        exact e4 j (by omega) h2
theorem w_tellPlain_no {N : Nat} {s : Int} {v : Nat → Int} (h : ¬ (0 ≤ s ∧ s ≤ 1000000000)) : iCounters_tellPlain N s v = some (0, v) := by
  unfold iCounters_tellPlain
  by_cases h0 : s < 0
  · rw [if_pos h0]
  · rw [if_neg h0, if_neg (by omega)]
theorem cR_prod : ∀ n, n < 13 → ∀ m, m < n → cW m * cR m = cW (m + 1) := by
  intro n hn m hm
  exact (cW_succ m (by omega)).symm
theorem w_value {N : Nat} (hN : 5000 ≤ N) {p : Int} {ratio : Nat → Int} (hr : ∀ k, k < 12 → ratio k = cR k) (h0 : 0 ≤ p) (h1 : p < 13) : wp (iM_value N p ratio) (fun r => r = cW p.toNat) := by
  unfold iM_value iM_value_b5
  refine wp_zlp2 (fun (k : Nat) (x2 x4 : Int) => ∃ m : Nat, x4 = m ∧ m + k = p.toNat ∧ x2 = cW m) ?_ N p.toNat 1 0 (by omega) ⟨0, rfl, by omega, rfl⟩
  intro self k x2 x4 ⟨m, e1, e2, e3⟩ ih
  unfold iM_value_b5_F
  subst e1
  cases k with
  | zero =>
    rw [if_pos (by omega), wp_some, e3]
    congr 1
  | succ k =>
    have em : (m : Int).toNat = m := rfl
    have w1 := cW_pos (m + 1) (by omega)
    have w2 := cW_le (m + 1) (by omega)
    have e4 : x2 * ratio (m : Int).toNat = cW (m + 1) := by rw [em, e3, hr m (by omega), cW_succ m (by omega)]
    rw [if_neg (by omega)]
    simp only [wp_gd, jb_iff, jR_iff, jr_iff, e4]
    exact ⟨by omega, by omega, by omega, ih k _ _ (Nat.lt_succ_self k) ⟨m + 1, by omega, by omega, rfl⟩⟩
theorem w_plains {N : Nat} (hN : 5000 ≤ N) {s : Int} {v ratio : Nat → Int} (hr : ∀ k, k < 12 → ratio k = cR k) (h0 : 0 ≤ s) (h1 : s ≤ 1000000000) : wp (iM_plains N s v ratio) (fun r => ∀ k, k < 13 → r k = cP s k) := by
  unfold iM_plains
  refine wp_zlp3 (fun (k : Nat) (x2 x3 : Int) (d : Nat → Int) => x3 = (k : Int) - 1 ∧ k ≤ 13 ∧ x2 = cRest s (13 - k) ∧ ∀ j, k ≤ j → j < 13 → d j = cP s j) ?_ N 13 s 12 v (by omega) ⟨rfl, Nat.le_refl _, rfl, fun j h h2 => by omega⟩
  intro self k x2 x3 d ⟨e1, e2, e3, e4⟩ ih
  unfold iM_plains_b7_F
  cases k with
  | zero =>
    rw [if_pos (by omega), wp_some]
    exact fun k hk => e4 k (by omega) hk
  | succ m =>
    have ex : x3.toNat = m := by omega
    have em : cRest s (13 - (m + 1)) = cRest s (12 - m) := by rw [show 13 - (m + 1) = 12 - m by omega]
    have p1 := cRest_nn h0 (12 - m) (by omega)
    have p2 := cRest_le h0 h1 (12 - m) (by omega)
    have w1 := cW_pos m (by omega)
    have b1 := cP_nn h0 m (by omega)
    have b2 := cP_le h0 h1 m (by omega)
    have ed : x2.tdiv (cW m) = cP s m := by rw [e3, em, Int.tdiv_eq_ediv_of_nonneg p1]; rfl
    have et : x2.tmod (cW m) = cRest s (13 - m) := by rw [e3, em, Int.tmod_eq_emod_of_nonneg p1, cRest_succ m (by omega)]
    rw [if_neg (by omega), wp_bd1]
    refine wp_mono (w_value hN hr (by omega) (by omega)) (fun r hr1 => ?_)
    rw [ex] at hr1
    subst hr1
    rw [wp_gd, wp_gd, wp_bd1]
    refine ⟨jn_iff.mpr (by omega), jb_iff.mpr (by omega), ?_⟩
    refine wp_mono (w_value hN hr (by omega) (by omega)) (fun r hr1 => ?_)
    rw [ex] at hr1
    subst hr1
    simp only [wp_gd, jn_iff, jr_iff, jR_iff, ed, et, ex]
    refine ⟨by omega, by omega, by omega, by omega, ih m _ _ _ (Nat.lt_succ_self m) ⟨by omega, by omega, rfl, fun j h h2 => ?_⟩⟩
    by_cases hj : j = m
    · rw [hj, va_up_self]
    · rw [va_up_ne _ _ hj]
      exact e4 j (by omega) h2
def cC (t : Nat → Int) : Nat → Int
  | 0 => 0
  | p + 1 => (t p + cC t p) / cR p
def cN (t : Nat → Int) : Nat → Int
  | 0 => 0
  | p + 1 => cN t p + cC t (p + 1)
def cF (t : Nat → Int) (k : Nat) : Int := if k < 12 then (t k + cC t k) % cR k else t k + cC t k
def cOK (t : Nat → Int) : Prop := ∀ p, p < 13 → t p + cC t p ≤ 99
theorem cC_nn {t : Nat → Int} (h : ∀ p, p < 13 → 0 ≤ t p) : ∀ p, p < 13 → 0 ≤ cC t p
  | 0, _ => Int.le_refl 0
  | p + 1, hp => by
    have a := cC_nn h p (by omega)
    have b := h p (by omega)
    have c := (cR_b p (by omega)).1
    exact Int.ediv_nonneg (by omega) (by omega)
theorem cN_nn {t : Nat → Int} (h : ∀ p, p < 13 → 0 ≤ t p) : ∀ p, p < 13 → 0 ≤ cN t p
  | 0, _ => Int.le_refl 0
  | p + 1, hp => by
    have a := cN_nn h p (by omega)
    have b := cC_nn h (p + 1) hp
    show 0 ≤ cN t p + cC t (p + 1)
    omega
theorem cF_b {t : Nat → Int} (h : ∀ p, p < 13 → 0 ≤ t p) (ok : cOK t) (k : Nat) (hk : k < 13) : 0 ≤ cF t k ∧ cF t k ≤ 99 := by
  have a := h k hk
  have b := cC_nn h k hk
  have c := ok k hk
  unfold cF
  split
  · rename_i h2
    have d := cR_b k h2
    have e1 := Int.emod_nonneg (t k + cC t k) (b := cR k) (by omega)
    have e2 := Int.emod_lt_of_pos (t k + cC t k) (b := cR k) (by omega)
    omega
  · omega
theorem ediv_le {a b : Int} (h : 0 ≤ a) (hb : 0 < b) : 0 ≤ a / b ∧ a / b ≤ a := ⟨Int.ediv_nonneg h (Int.le_of_lt hb), Int.ediv_le_self _ h⟩
theorem w_change {N : Nat} (hN : 5000 ≤ N) {t v : Nat → Int} (h : ∀ p, p < 13 → 0 ≤ t p ∧ t p ≤ 99) (hv : ∀ p, p < 13 → v p = t p) : wp (iCounters_changeUpward N v) (fun r => (cOK t → r.1 = cN t 12 ∧ ∀ k, k < 13 → r.2 k = cF t k) ∧ (¬ cOK t → r.1 = -1)) := by
  unfold iCounters_changeUpward iCounters_changeUpward_b4
  have hn := cC_nn (fun p hp => (h p hp).1)
  refine wp_zlp3 (fun (k : Nat) (x1 x2 : Int) (d : Nat → Int) => ∃ p : Nat, x2 = p ∧ p + k = 12 ∧ x1 = cN t p ∧ x1 ≤ 99 * p ∧ (∀ j, j < p → d j = cF t j) ∧ d p = t p + cC t p ∧ (∀ j, p < j → j < 13 → d j = t j) ∧ ∀ j, j ≤ p → t j + cC t j ≤ 99) ?_ N 12 0 0 v (by omega) ⟨0, rfl, rfl, rfl, by omega, fun j hj => by omega, ?_, fun j _ hj => hv j hj, fun j hj => ?_⟩
  · intro self k x1 x2 d ⟨p, e1, e2, e3, e9, e4, e5, e6, e7⟩ ih
    subst e1
    have ep : (p : Int).toNat = p := rfl
    have ep1 : ((p : Int) + 1).toNat = p + 1 := by omega
    unfold iCounters_changeUpward_b4_F
    cases k with
    | zero =>
      have e8 : p = 12 := by omega
      subst e8
      rw [if_pos (by omega), wp_some]
      refine ⟨fun _ => ⟨e3, fun k hk => ?_⟩, fun n => absurd (fun p hp => e7 p (by omega)) n⟩
      show d k = _
      by_cases hk2 : k = 12
      · subst hk2
        rw [e5]
        rfl
      · exact e4 k (by omega)
    | succ k =>
      have r1 := cR_b p (by omega)
      have q1 := (h p (by omega)).1
      have q2 := hn p (by omega)
      have q3 := e7 p (Nat.le_refl p)
      have q4 := h (p + 1) (by omega)
      have hd : (t p + cC t p) / cR p = cC t (p + 1) := rfl
      have q5 := ediv_le (a := t p + cC t p) (b := cR p) (by omega) (by omega)
      rw [hd] at q5
      have nn := cN_nn (fun p hp => (h p hp).1) p (by omega)
      rw [if_neg (by omega)]
      have f1 : (d p).tdiv (cR p) = cC t (p + 1) := by rw [e5, Int.tdiv_eq_ediv_of_nonneg (by omega)]; rfl
      have f2 : (d p).tmod (cR p) = cF t p := by rw [e5, Int.tmod_eq_emod_of_nonneg (by omega), cF, if_pos (by omega)]
      have f3 : d (p + 1) = t (p + 1) := e6 (p + 1) (by omega) (by omega)
      have f4 : jc1.getD p 0 = cR p := rfl
      simp only [wp_ite, wp_gd, wp_some, jb_iff, jr_iff, jn_iff, ep, ep1, f1, f2, va_up_self, va_up_ne _ _ (show p + 1 ≠ p by omega), f3, f4]
      refine ⟨by omega, by omega, by omega, by omega, by omega, by omega, by omega, fun hle => ⟨by omega, ?_⟩, fun hgt => ⟨fun ok => absurd (ok (p + 1) (by omega)) hgt, fun _ => trivial⟩⟩
      refine ih k _ _ _ (Nat.lt_succ_self k) ⟨p + 1, by omega, by omega, by rw [e3]; rfl, by omega, fun j hj => ?_, va_up_self _ _ _, fun j hj hj2 => ?_, fun j hj => ?_⟩
      · rw [va_up_ne _ _ (by omega)]
        by_cases hj2 : j = p
        · rw [hj2, va_up_self]
        · rw [va_up_ne _ _ hj2]
          exact e4 j (by omega)
      · rw [va_up_ne _ _ (by omega), va_up_ne _ _ (by omega)]
        exact e6 j (by omega) hj2
      · by_cases hj2 : j = p + 1
        · rw [hj2]
          exact hle
        · exact e7 j (by omega)
  · show v 0 = t 0 + 0
    rw [hv 0 (by omega), Int.add_zero]
  · have : j = 0 := by omega
    subst this
    have := (h 0 (by omega)).2
    show t 0 + 0 ≤ 99
    omega
def cLay (s : Int) (l : Nat → Int) (r : Int) (m : Nat → Int) : Prop := (cOK (fun p => l p + cP s p) → r = cN (fun p => l p + cP s p) 12 ∧ ∀ k, k < 13 → m k = cF (fun p => l p + cP s p) k) ∧ (¬ cOK (fun p => l p + cP s p) → r = -1 ∧ ∀ k, k < 13 → m k = l k)
theorem cOK_ge {t : Nat → Int} (h : ∀ p, p < 13 → 0 ≤ t p) {p : Nat} (hp : p < 13) (k : ¬ t p ≤ 99) : ¬ cOK t := by
  intro ok
  have a := ok p hp
  have b := cC_nn h p hp
  omega
theorem w_add {N : Nat} (hN : 5000 ≤ N) {s : Int} {due l tr : Nat → Int} (h0 : 0 ≤ s) (h1 : s ≤ 1000000000) (hl : ∀ p, p < 13 → 0 ≤ l p ∧ l p ≤ 99) : wp (iCounters_add N s due l tr) (fun r => cLay s l r.1 r.2.2.1) := by
  unfold iCounters_add
  rw [wp_bd2]
  refine wp_mono (w_tellPlain hN h0 h1) (fun r ⟨r1, r2⟩ => ?_)
  have ht : ∀ p, p < 13 → 0 ≤ l p + cP s p := fun p hp => by
    have a := (hl p hp).1
    have b := cP_nn h0 p hp
    omega
  rw [if_neg (by omega)]
  unfold iCounters_add_b12
  refine wp_zlp2 (fun (k : Nat) (x2 : Int) (d : Nat → Int) => ∃ p : Nat, x2 = p ∧ p + k = 13 ∧ ∀ j, j < p → d j = l j + cP s j ∧ d j ≤ 99) ?_ N 13 0 tr (by omega) ⟨0, rfl, rfl, fun j hj => by omega⟩
  intro self k x2 d ⟨p, e1, e2, e3⟩ ih
  subst e1
  have ep : (p : Int).toNat = p := rfl
  unfold iCounters_add_b12_F
  cases k with
  | zero =>
    rw [if_pos (by omega)]
    unfold iCounters_add_b56
    rw [wp_bd2]
    refine wp_mono (w_change hN (t := fun p => l p + cP s p) (fun p hp => ⟨ht p hp, by have a := e3 p (by omega); have b := a.1; have c := a.2; omega⟩) (fun p hp => (e3 p (by omega)).1)) (fun q ⟨q1, q2⟩ => ?_)
    have nn := cN_nn ht 12 (by omega)
    rw [wp_ite, wp_some, wp_some]
    refine ⟨fun hq => ⟨fun ok => ?_, fun _ => ⟨hq, fun k _ => rfl⟩⟩, fun hq => ⟨fun ok => ⟨(q1 ok).1, fun k hk => ?_⟩, fun no => absurd (q2 no) hq⟩⟩
    · have a := (q1 ok).1
      omega
    · show va_cpy q.2 l 0 0 13 k = _
      rw [← (q1 ok).2 k hk, va_cpy, if_pos (by omega), Nat.sub_zero, Nat.zero_add]
  | succ k =>
    have a := hl p (by omega)
    have b := cP_nn h0 p (by omega)
    have c := cP_le h0 h1 p (by omega)
    rw [if_neg (by omega)]
    simp only [wp_ite, wp_gd, wp_some, jb_iff, jr_iff, ep, va_up_self, r2 p (by omega)]
    refine ⟨by omega, by omega, fun hle => ⟨by omega, ih k _ _ (Nat.lt_succ_self k) ⟨p + 1, by omega, by omega, fun j hj => ?_⟩⟩, fun hgt => ⟨fun ok => absurd ok (cOK_ge ht (p := p) (by omega) hgt), fun _ => ⟨rfl, fun k _ => rfl⟩⟩⟩
    by_cases hj2 : j = p
    · subst hj2
      rw [va_up_self]
      exact ⟨rfl, hle⟩
    · rw [va_up_ne _ _ hj2]
      exact e3 j (by omega)
theorem w_works {N : Nat} (hN : 5000 ≤ N) {l w : Nat → Int} : wp (iM_works N l w) (fun r => ∀ k, k < 13 → r k = l k) := by
  unfold iM_works iM_works_b2
  refine wp_zlp2 (fun (k : Nat) (x2 : Int) (d : Nat → Int) => ∃ p : Nat, x2 = p ∧ p + k = 13 ∧ ∀ j, j < p → d j = l j) ?_ N 13 0 w (by omega) ⟨0, rfl, rfl, fun j hj => by omega⟩
  intro self k x2 d ⟨p, e1, e2, e3⟩ ih
  subst e1
  have ep : (p : Int).toNat = p := rfl
  unfold iM_works_b2_F
  cases k with
  | zero =>
    rw [if_pos (by omega), wp_some]
    exact fun k hk => e3 k (by omega)
  | succ k =>
    rw [if_neg (by omega)]
    simp only [wp_gd, jb_iff, jr_iff, ep]
    refine ⟨by omega, by omega, ih k _ _ (Nat.lt_succ_self k) ⟨p + 1, by omega, by omega, fun j hj => ?_⟩⟩
    by_cases hj2 : j = p
    · rw [hj2, va_up_self]
    · rw [va_up_ne _ _ hj2]
      exact e3 j (by omega)
theorem w_stays {N : Nat} (hN : 5000 ≤ N) {l w : Nat → Int} : wp (iM_stays N l w) (fun r => ∀ k, k < 13 → r k = w k) := by
  unfold iM_stays iM_stays_b2
  refine wp_zlp2 (fun (k : Nat) (x2 : Int) (d : Nat → Int) => ∃ p : Nat, x2 = p ∧ p + k = 13 ∧ ∀ j, j < p → d j = w j) ?_ N 13 0 l (by omega) ⟨0, rfl, rfl, fun j hj => by omega⟩
  intro self k x2 d ⟨p, e1, e2, e3⟩ ih
  subst e1
  have ep : (p : Int).toNat = p := rfl
  unfold iM_stays_b2_F
  cases k with
  | zero =>
    rw [if_pos (by omega), wp_some]
    exact fun k hk => e3 k (by omega)
  | succ k =>
    rw [if_neg (by omega)]
    simp only [wp_gd, jb_iff, jr_iff, ep]
    refine ⟨by omega, by omega, ih k _ _ (Nat.lt_succ_self k) ⟨p + 1, by omega, by omega, fun j hj => ?_⟩⟩
    by_cases hj2 : j = p
    · rw [hj2, va_up_self]
    · rw [va_up_ne _ _ hj2]
      exact e3 j (by omega)
theorem ediv_step {a r : Int} (hr : 0 < r) : (a + r) / r = a / r + 1 := by
  rw [Int.add_ediv_of_dvd_right (Int.dvd_refl r), Int.ediv_self (Int.ne_of_gt hr)]
theorem w_M_lay {N : Nat} (hN : 5000 ≤ N) {s : Int} {l pl ra w : Nat → Int} (hr : ∀ k, k < 12 → ra k = cR k) (h0 : 0 ≤ s) (h1 : s ≤ 1000000000) (hl : ∀ p, p < 13 → 0 ≤ l p ∧ l p ≤ 99) : wp (iM_lay N s l pl ra w) (fun r => cLay s l r.1 r.2.1) := by
  unfold iM_lay
  rw [wp_bd1, w_isIn]
  refine ⟨fun _ => ?_, fun n => absurd ⟨h0, h1⟩ n⟩
  rw [if_neg (by decide), wp_bd1]
  refine wp_mono (w_plains hN hr h0 h1) (fun pl2 hpl => ?_)
  rw [wp_bd1]
  refine wp_mono (w_works hN) (fun w2 hw2 => ?_)
  have ht : ∀ p, p < 13 → 0 ≤ l p + cP s p := fun p hp => by
    have a := (hl p hp).1
    have b := cP_nn h0 p hp
    omega
  unfold iM_lay_b25
  refine wp_zlp2 (fun (k : Nat) (x2 : Int) (d : Nat → Int) => ∃ p : Nat, x2 = p ∧ p + k = 13 ∧ (∀ j, j < p → d j = l j + cP s j ∧ d j ≤ 99) ∧ ∀ j, p ≤ j → j < 13 → d j = l j) ?_ N 13 0 w2 (by omega) ⟨0, rfl, rfl, fun j hj => by omega, fun j _ hj => hw2 j hj⟩
  intro self k x2 d ⟨p, e1, e2, e3, e4⟩ ih
  subst e1
  have ep : (p : Int).toNat = p := rfl
  unfold iM_lay_b25_F
  cases k with
  | succ k =>
    have a := hl p (by omega)
    have b := cP_nn h0 p (by omega)
    have c := cP_le h0 h1 p (by omega)
    rw [if_neg (by omega)]
    simp only [wp_ite, wp_gd, wp_some, jb_iff, jr_iff, ep, va_up_self, hpl p (by omega), e4 p (Nat.le_refl p) (by omega)]
    refine ⟨by omega, by omega, fun hle => ⟨by omega, ih k _ _ (Nat.lt_succ_self k) ⟨p + 1, by omega, by omega, fun j hj => ?_, fun j hj hj2 => ?_⟩⟩, fun hgt => ⟨fun ok => absurd ok (cOK_ge ht (p := p) (by omega) hgt), fun _ => ⟨rfl, fun k _ => rfl⟩⟩⟩
    · by_cases hj2 : j = p
      · subst hj2
        rw [va_up_self]
        exact ⟨rfl, hle⟩
      · rw [va_up_ne _ _ hj2]
        exact e3 j (by omega)
    · rw [va_up_ne _ _ (by omega)]
      exact e4 j (by omega) hj2
  | zero =>
    rw [if_pos (by omega)]
    unfold iM_lay_b65 iM_lay_b69
    have hall : ∀ j, j < 13 → l j + cP s j ≤ 99 := fun j hj => by
      have a := e3 j (by omega)
      omega
    have hn := cC_nn ht
    have hN0 := cN_nn ht
    refine wp_zlp3 (fun (k : Nat) (x1 x2 : Int) (d : Nat → Int) => ∃ p : Nat, x2 = p ∧ p + k = 12 ∧ x1 = cN (fun p => l p + cP s p) p ∧ x1 ≤ 99 * p ∧ (∀ j, j < p → d j = cF (fun p => l p + cP s p) j) ∧ d p = l p + cP s p + cC (fun p => l p + cP s p) p ∧ (∀ j, p < j → j < 13 → d j = l j + cP s j) ∧ ∀ j, j ≤ p → l j + cP s j + cC (fun p => l p + cP s p) j ≤ 99) ?_ N 12 0 0 d (by omega) ⟨0, rfl, rfl, rfl, by omega, fun j hj => by omega, ?_, fun j _ hj => (e3 j (by omega)).1, fun j hj => ?_⟩
    · intro self k x1 x2 d ⟨p, e1, e2, e3, e9, e4, e5, e6, e7⟩ ih
      subst e1
      unfold iM_lay_b69_F
      cases k with
      | zero =>
        have e8 : p = 12 := by omega
        subst e8
        rw [if_pos (by omega)]
        unfold iM_lay_b144
        rw [wp_bd1]
        refine wp_mono (w_stays hN) (fun m hm => ?_)
        rw [wp_some]
        refine ⟨fun _ => ⟨e3, fun k hk => ?_⟩, fun n => absurd (fun p hp => e7 p (by omega)) n⟩
        show m k = _
        rw [hm k hk]
        by_cases hk2 : k = 12
        · subst hk2
          rw [e5]
          rfl
        · exact e4 k (by omega)
      | succ k =>
        have r1 := cR_b p (by omega)
        have q1 := ht p (by omega)
        have q2 := hn p (by omega)
        have q3 := e7 p (Nat.le_refl p)
        have q4 := ht (p + 1) (by omega)
        have q6 : l (p + 1) + cP s (p + 1) ≤ 99 + 99 := by
          have a := hl (p + 1) (by omega)
          have c := cP_le h0 h1 (p + 1) (by omega)
          omega
        have ep : (p : Int).toNat = p := rfl
        have ep1 : ((p : Int) + 1).toNat = p + 1 := by omega
        have hd : (l p + cP s p + cC (fun p => l p + cP s p) p) / cR p = cC (fun p => l p + cP s p) (p + 1) := rfl
        generalize hA : l p + cP s p + cC (fun p => l p + cP s p) p = A at hd q3 e5
        have q5 := ediv_le (a := A) (b := cR p) (by omega) (by omega)
        have nn := hN0 p (by omega)
        rw [if_neg (by omega)]
        unfold iM_lay_b75
        refine wp_zlp2 (fun (k : Nat) (x2 : Int) (d2 : Nat → Int) => ∃ i : Int, x2 = x1 + i ∧ 0 ≤ i ∧ d2 p = A - i * cR p ∧ 0 ≤ d2 p ∧ d2 (p + 1) = l (p + 1) + cP s (p + 1) + i ∧ (∀ j, j ≠ p → j ≠ p + 1 → d2 j = d j) ∧ (i = 0 ∨ l (p + 1) + cP s (p + 1) + i ≤ 99) ∧ (k : Int) = d2 p) ?_ N A.toNat x1 d (by omega) ⟨0, by omega, by omega, by omega, by omega, by rw [e6 (p + 1) (by omega) (by omega)]; omega, fun j _ _ => rfl, Or.inl rfl, by omega⟩
        intro self2 k2 x2 d2 ⟨i, f1, f2, f3, f4, f5, f6, f7, f8⟩ ih2
        unfold iM_lay_b75_F
        have g0 : 0 ≤ i * cR p := Int.mul_nonneg f2 (by omega)
        simp only [wp_ite, wp_gd, wp_some, jb_iff, jr_iff, ep, ep1, hr p (by omega), va_up_self, va_up_ne _ _ (show p + 1 ≠ p by omega), f5]
        refine ⟨by omega, by omega, fun hlt => ?_, fun hge => ⟨by omega, by omega, by omega, by omega, fun hle => ⟨by omega, ?_⟩, fun hgt => ⟨fun ok => ?_, fun _ => ⟨rfl, fun k _ => rfl⟩⟩⟩⟩
        · -- the place has less than its ratio
          unfold iM_lay_b138
          have hi : A / cR p = i := by
            rw [show A = d2 p + i * cR p by omega, Int.add_mul_ediv_right _ _ (by omega), Int.ediv_eq_zero_of_lt f4 hlt]
            omega
          have hm : A % cR p = d2 p := by
            rw [show A = d2 p + i * cR p by omega, Int.add_mul_emod_self_right, Int.emod_eq_of_lt f4 hlt]
          have hc : cC (fun p => l p + cP s p) (p + 1) = i := by rw [← hd]; exact hi
          rw [wp_gd, jr_iff]
          refine ⟨by omega, ih k _ _ _ (Nat.lt_succ_self k) ⟨p + 1, by omega, by omega, ?_, ?_, fun j hj => ?_, ?_, fun j hj hj2 => ?_, fun j hj => ?_⟩⟩
          · rw [f1, e3, ← hc]
            rfl
          · have g : i ≤ 99 := by
              rcases f7 with f7 | f7 <;> omega
            omega
          · by_cases hj2 : j = p
            · subst hj2
              show d2 j = _
              rw [cF, if_pos (by omega), hA]
              exact hm.symm
            · rw [f6 j hj2 (by omega)]
              exact e4 j (by omega)
          · rw [f5, hc]
          · rw [f6 j (by omega) (by omega)]
            exact e6 j (by omega) hj2
          · by_cases hj2 : j = p + 1
            · subst hj2
              rw [hc]
              rcases f7 with f7 | f7
              · have c := hall (p + 1) (by omega)
                omega
              · exact f7
            · by_cases hj3 : j = p
              · subst hj3
                rw [hA]
                exact q3
              · exact e7 j (by omega)
        · refine ih2 (d2 p - cR p).toNat _ _ (by omega) ⟨i + 1, by omega, by omega, ?_, ?_, ?_, fun j hj hj2 => ?_, Or.inr (by omega), ?_⟩
          · rw [va_up_ne _ _ (by omega), va_up_self, Int.add_mul, Int.one_mul]
            omega
          · rw [va_up_ne _ _ (by omega), va_up_self]
            omega
          · rw [va_up_self]
            omega
          · rw [va_up_ne _ _ hj2, va_up_ne _ _ hj]
            exact f6 j hj hj2
          · rw [va_up_ne _ _ (by omega), va_up_self]
            omega
        · have g := ok (p + 1) (by omega)
          rw [← hd] at g
          have g2 : i + 1 ≤ A / cR p := Int.le_ediv_of_mul_le (by omega) (by rw [Int.add_mul, Int.one_mul]; omega)
          have g3 : l (p + 1) + cP s (p + 1) + A / cR p ≤ 99 := g
          omega
    · show d 0 = l 0 + cP s 0 + 0
      rw [(e3 0 (by omega)).1]
      omega
    · have : j = 0 := by omega
      subst this
      have a := (e3 0 (by omega))
      show l 0 + cP s 0 + 0 ≤ 99
      omega
