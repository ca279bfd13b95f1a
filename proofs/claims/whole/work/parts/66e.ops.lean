set_option maxHeartbeats 4000000
set_option maxRecDepth 100000
def mlB (x : Int) : Bool := decide (x = 3 ∨ x = 4)
def asB (x : Int) : Bool := decide (1 ≤ x ∧ x ≤ 4)
theorem mlB_iff {x : Int} : mlB x = true ↔ x = 3 ∨ x = 4 := decide_eq_true_iff
theorem asB_iff {x : Int} : asB x = true ↔ 1 ≤ x ∧ x ≤ 4 := decide_eq_true_iff
theorem tkw_p {f : Int → Bool} {x : Int} {S : List Int} (h : f x = true) : tkw f (x :: S) = x :: tkw f S := if_pos h
theorem tkw_n {f : Int → Bool} {x : Int} {S : List Int} (h : ¬ f x = true) : tkw f (x :: S) = [] := if_neg h
theorem drw_p {f : Int → Bool} {x : Int} {S : List Int} (h : f x = true) : drw f (x :: S) = drw f S := if_pos h
theorem drw_n {f : Int → Bool} {x : Int} {S : List Int} (h : ¬ f x = true) : drw f (x :: S) = x :: S := if_neg h
theorem onT_c {a x : Int} {S : List Int} : onT a (x :: S) = if x = a then 1 else 0 := rfl
theorem w_pushE {k : Nat → Int} {x w : Int} {W : List Int} (h : stk k W) (hw : w = W.length) : stk (va_up k w.toNat x) (x :: W) := by
  rw [show w.toNat = W.length by omega]
  exact stk_push h
theorem w_mulL [Inhabited Frm] {N : Nat} {T : Nat → Int} {n : Int} {k : Nat → Int} {base x1 a bad bp o : Int} {Q : R_iM_goesOn → Prop} : ∀ (W L : List Int) (m : Nat) (s w : Int) (v : Nat → Int), W.length < m → W.length < 700 → L.length + W.length < 100000 → w = W.length → stk k W → cod v s L → (∀ s' v' k', cod v' s' (L ++ tkw mlB W) → stk k' (x1 :: drw mlB W) → Q (1, a, bad, bp, s', o, ((drw mlB W).length : Int) + 1, v', k')) → wp (iM_goesOn_b158 N base n T x1 a bad bp o k m s w v) Q := by
  intro W
  induction W with
  | nil =>
    intro L m s w v hm hl hL hw h hv kk
    cases m with
    | zero => exact absurd hm (Nat.not_lt_zero _)
    | succ m =>
      show wp (iM_goesOn_b158_F N base n T x1 a bad bp o k _ s w v) Q
      have hw2 : w = 0 := hw
      unfold iM_goesOn_b158_F
      rw [wp_bd1, w_isOn hw (by omega) h, wp_some]
      show wp (if (0 : Int) = 0 then _ else _) Q
      rw [if_pos rfl, wp_bd1, w_isOn hw (by omega) h, wp_some]
      show wp (if (0 : Int) = 0 then _ else _) Q
      rw [if_pos rfl, wp_gd, wp_gd, wp_some]
      refine ⟨jb_iff.mpr (by omega), jr_iff.mpr (by omega), ?_⟩
      have := kk s v (va_up k w.toNat x1) (by show cod v s (L ++ []); rw [List.append_nil]; exact hv) (w_pushE h hw)
      rw [hw]
      rw [hw] at this
      exact this
  | cons x W ih =>
    intro L m s w v hm hl hL hw h hv kk
    cases m with
    | zero => exact absurd hm (Nat.not_lt_zero _)
    | succ m =>
      show wp (iM_goesOn_b158_F N base n T x1 a bad bp o k (iM_goesOn_b158 N base n T x1 a bad bp o k m) s w v) Q
      have hw2 : w = (W.length : Int) + 1 := hw
      have hl2 : W.length + 1 < 700 := hl
      have hm2 : W.length < m := by have : W.length + 1 < m + 1 := hm; omega
      have hL2 : L.length + (W.length + 1) < 100000 := hL
      have hl3 : (x :: W).length ≤ 700 := by show W.length + 1 ≤ 700; omega
      have dr : mlB x = true → wp (iM_goesOn_b174 N base n T (iM_goesOn_b158 N base n T x1 a bad bp o k m) x1 a bad bp s o w v k) Q := fun c => by
        unfold iM_goesOn_b174
        rw [wp_bd3]
        refine w_drops hw (by omega) h hv (by omega) (fun v' h' => ?_)
        refine ih (L ++ [x]) m (s + 1) _ v' hm2 (by omega) (by rw [List.length_append]; show L.length + 1 + W.length < 100000; omega) rfl h.2 h' (fun s2 v2 k2 h2 g2 => ?_)
        rw [tkw_p c, drw_p c] at kk
        exact kk s2 v2 k2 (by rw [List.append_assoc] at h2; exact h2) g2
      unfold iM_goesOn_b158_F
      rw [wp_bd1, w_isOn hw hl3 h, wp_some, onT_c]
      by_cases c3 : x = 3
      · rw [if_pos c3, if_neg (by decide)]
        exact dr (mlB_iff.mpr (Or.inl c3))
      · rw [if_neg c3, if_pos rfl, wp_bd1, w_isOn hw hl3 h, wp_some, onT_c]
        by_cases c4 : x = 4
        · rw [if_pos c4, if_neg (by decide)]
          exact dr (mlB_iff.mpr (Or.inr c4))
        · rw [if_neg c4, if_pos rfl, wp_gd, wp_gd, wp_some]
          have c : ¬ mlB x = true := fun g => by have := mlB_iff.mp g; omega
          rw [tkw_n c, drw_n c] at kk
          refine ⟨jb_iff.mpr (by omega), jr_iff.mpr (by omega), ?_⟩
          have := kk s v (va_up k w.toNat x1) (by rw [List.append_nil]; exact hv) (w_pushE h hw)
          rw [hw]
          rw [hw] at this
          exact this
theorem w_addL [Inhabited Frm] {N : Nat} {T : Nat → Int} {n : Int} {k : Nat → Int} {base x1 a bad bp o : Int} {Q : R_iM_goesOn → Prop} : ∀ (W L : List Int) (m : Nat) (s w : Int) (v : Nat → Int), W.length < m → W.length < 700 → L.length + W.length < 100000 → w = W.length → stk k W → cod v s L → (∀ s' v' k', cod v' s' (L ++ tkw asB W) → stk k' (x1 :: drw asB W) → Q (1, a, bad, bp, s', o, ((drw asB W).length : Int) + 1, v', k')) → wp (iM_goesOn_b243 N base n T x1 a bad bp o k m s w v) Q := by
  intro W
  induction W with
  | nil =>
    intro L m s w v hm hl hL hw h hv kk
    cases m with
    | zero => exact absurd hm (Nat.not_lt_zero _)
    | succ m =>
      show wp (iM_goesOn_b243_F N base n T x1 a bad bp o k _ s w v) Q
      have hw2 : w = 0 := hw
      unfold iM_goesOn_b243_F
      rw [wp_bd1, w_isOn hw (by omega) h, wp_some]
      show wp (if (0 : Int) = 0 then _ else _) Q
      rw [if_pos rfl, wp_bd1, w_isOn hw (by omega) h, wp_some]
      show wp (if (0 : Int) = 0 then _ else _) Q
      rw [if_pos rfl, wp_bd1, w_isOn hw (by omega) h, wp_some]
      show wp (if (0 : Int) = 0 then _ else _) Q
      rw [if_pos rfl, wp_bd1, w_isOn hw (by omega) h, wp_some]
      show wp (if (0 : Int) = 0 then _ else _) Q
      rw [if_pos rfl, wp_gd, wp_gd, wp_some]
      refine ⟨jb_iff.mpr (by omega), jr_iff.mpr (by omega), ?_⟩
      have := kk s v (va_up k w.toNat x1) (by show cod v s (L ++ []); rw [List.append_nil]; exact hv) (w_pushE h hw)
      rw [hw]
      rw [hw] at this
      exact this
  | cons x W ih =>
    intro L m s w v hm hl hL hw h hv kk
    cases m with
    | zero => exact absurd hm (Nat.not_lt_zero _)
    | succ m =>
      show wp (iM_goesOn_b243_F N base n T x1 a bad bp o k (iM_goesOn_b243 N base n T x1 a bad bp o k m) s w v) Q
      have hw2 : w = (W.length : Int) + 1 := hw
      have hl2 : W.length + 1 < 700 := hl
      have hm2 : W.length < m := by have : W.length + 1 < m + 1 := hm; omega
      have hL2 : L.length + (W.length + 1) < 100000 := hL
      have hl3 : (x :: W).length ≤ 700 := by show W.length + 1 ≤ 700; omega
      have dr : asB x = true → wp (iM_goesOn_b275 N base n T (iM_goesOn_b243 N base n T x1 a bad bp o k m) x1 a bad bp s o w v k) Q := fun c => by
        unfold iM_goesOn_b275
        rw [wp_bd3]
        refine w_drops hw (by omega) h hv (by omega) (fun v' h' => ?_)
        refine ih (L ++ [x]) m (s + 1) _ v' hm2 (by omega) (by rw [List.length_append]; show L.length + 1 + W.length < 100000; omega) rfl h.2 h' (fun s2 v2 k2 h2 g2 => ?_)
        rw [tkw_p c, drw_p c] at kk
        exact kk s2 v2 k2 (by rw [List.append_assoc] at h2; exact h2) g2
      unfold iM_goesOn_b243_F
      rw [wp_bd1, w_isOn hw hl3 h, wp_some, onT_c]
      by_cases c3 : x = 3
      · rw [if_pos c3, if_neg (by decide)]
        exact dr (asB_iff.mpr (by omega))
      · rw [if_neg c3, if_pos rfl, wp_bd1, w_isOn hw hl3 h, wp_some, onT_c]
        by_cases c4 : x = 4
        · rw [if_pos c4, if_neg (by decide)]
          exact dr (asB_iff.mpr (by omega))
        · rw [if_neg c4, if_pos rfl, wp_bd1, w_isOn hw hl3 h, wp_some, onT_c]
          by_cases c1 : x = 1
          · rw [if_pos c1, if_neg (by decide)]
            exact dr (asB_iff.mpr (by omega))
          · rw [if_neg c1, if_pos rfl, wp_bd1, w_isOn hw hl3 h, wp_some, onT_c]
            by_cases c2 : x = 2
            · rw [if_pos c2, if_neg (by decide)]
              exact dr (asB_iff.mpr (by omega))
            · rw [if_neg c2, if_pos rfl, wp_gd, wp_gd, wp_some]
              have c : ¬ asB x = true := fun g => by have := asB_iff.mp g; omega
              rw [tkw_n c, drw_n c] at kk
              refine ⟨jb_iff.mpr (by omega), jr_iff.mpr (by omega), ?_⟩
              have := kk s v (va_up k w.toNat x1) (by rw [List.append_nil]; exact hv) (w_pushE h hw)
              rw [hw]
              rw [hw] at this
              exact this
