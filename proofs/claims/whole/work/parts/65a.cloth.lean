set_option maxHeartbeats 4000000
set_option maxRecDepth 100000
/-! the cloth's calls agree -/
def IC (l l2 ra : Nat → Int) : Prop := (∀ p, p < 13 → 0 ≤ l p ∧ l p ≤ 99) ∧ (∀ p, p < 13 → l2 p = l p) ∧ ∀ k, k < 12 → ra k = cR k
theorem IC_2 {l l2 ra : Nat → Int} (h : IC l l2 ra) : ∀ p, p < 13 → 0 ≤ l2 p ∧ l2 p ≤ 99 := fun p hp => by
  rw [h.2.1 p hp]
  exact h.1 p hp
theorem cC_cg {t u : Nat → Int} (h : ∀ p, p < 13 → t p = u p) : ∀ p, p < 13 → cC t p = cC u p
  | 0, _ => rfl
  | p + 1, hp => by
    show (t p + cC t p) / cR p = (u p + cC u p) / cR p
    rw [h p (by omega), cC_cg h p (by omega)]
theorem cN_cg {t u : Nat → Int} (h : ∀ p, p < 13 → t p = u p) : ∀ p, p < 13 → cN t p = cN u p
  | 0, _ => rfl
  | p + 1, hp => by
    show cN t p + cC t (p + 1) = cN u p + cC u (p + 1)
    rw [cN_cg h p (by omega), cC_cg h (p + 1) hp]
theorem cOK_cg {t u : Nat → Int} (h : ∀ p, p < 13 → t p = u p) (k : cOK t) : cOK u := fun p hp => by
  rw [← h p hp, ← cC_cg h p hp]
  exact k p hp
theorem cLay_eq {s : Int} {l l2 : Nat → Int} {r r2 : Int} {m m2 : Nat → Int} (h : ∀ p, p < 13 → l2 p = l p) (a : cLay s l r m) (b : cLay s l2 r2 m2) (h0 : 0 ≤ s) (h1 : s ≤ 1000000000) (hl : ∀ p, p < 13 → 0 ≤ l p ∧ l p ≤ 99) : r = r2 ∧ (∀ p, p < 13 → m2 p = m p) ∧ ∀ p, p < 13 → 0 ≤ m p ∧ m p ≤ 99 := by
  have ht : ∀ p, p < 13 → l2 p + cP s p = l p + cP s p := fun p hp => by rw [h p hp]
  by_cases ok : cOK (fun p => l p + cP s p)
  · obtain ⟨a1, a2⟩ := a.1 ok
    obtain ⟨b1, b2⟩ := b.1 (cOK_cg (fun p hp => (ht p hp).symm) ok)
    refine ⟨?_, fun p hp => ?_, fun p hp => ?_⟩
    · rw [a1, b1]
      exact (cN_cg ht 12 (by omega)).symm
    · rw [a2 p hp, b2 p hp]
      unfold cF
      simp only [ht p hp, cC_cg ht p hp]
    · rw [a2 p hp]
      exact cF_b (fun p hp => by have := (hl p hp).1; have := cP_nn h0 p hp; omega) ok p hp
  · obtain ⟨a1, a2⟩ := a.2 ok
    obtain ⟨b1, b2⟩ := b.2 (fun k => ok (cOK_cg ht k))
    refine ⟨by rw [a1, b1], fun p hp => ?_, fun p hp => ?_⟩
    · rw [a2 p hp, b2 p hp]
      exact h p hp
    · rw [a2 p hp]
      exact hl p hp
theorem cDp_99 {d : Int} {p : Nat} (hp : p < 13) (hd : 0 ≤ d ∧ d ≤ 99) : ∀ (m : Nat) (t : Nat → Int) (n : Int) (t2 : Nat → Int) (n2 : Int), (∀ j, j < 13 → j ≠ p → 0 ≤ t j ∧ t j ≤ 99) → (0 ≤ t p ∧ t p ≤ d + 99) → cDp d p m t n = some (t2, n2) → (∀ j, j < 13 → j ≠ p → 0 ≤ t2 j ∧ t2 j ≤ 99) ∧ d ≤ t2 p ∧ t2 p ≤ d + 99
  | 0, t, n, t2, n2, _, _, e => by cases e
  | m + 1, t, n, t2, n2, h, h2, e => by
    unfold cDp at e
    by_cases h1 : d ≤ t p
    · rw [if_pos h1] at e
      cases e
      exact ⟨h, h1, h2.2⟩
    · rw [if_neg h1] at e
      by_cases h3 : cAb t (12 - p) (p + 1) < 13
      · rw [if_pos h3] at e
        obtain ⟨a1, a2, a3, a4⟩ := cAb_spec t (12 - p) (p + 1)
        have hq := a4 (by omega)
        generalize cAb t (12 - p) (p + 1) = q at *
        refine cDp_99 hp hd m _ _ t2 n2 (fun j hj hne => ?_) ?_ e
        · unfold cB
          by_cases c1 : j = q
          · have := h q h3 (by omega)
            rw [if_pos c1, c1]
            omega
          · rw [if_neg c1]
            by_cases c2 : p < j ∧ j < q
            · have := a3 j (by omega) c2.2
              have := cR_b j (by omega)
              rw [if_pos c2]
              omega
            · rw [if_neg c2, if_neg hne]
              exact h j hj hne
        · unfold cB
          have := cR_b p (by omega)
          rw [if_neg (by omega), if_neg (by omega), if_pos rfl]
          omega
      · rw [if_neg h3] at e
        cases e
theorem cDa_99 {due : Nat → Int} (hd : ∀ j, j < 13 → 0 ≤ due j ∧ due j ≤ 99) : ∀ (k : Nat) (t : Nat → Int) (n : Int) (t2 : Nat → Int) (n2 : Int), k ≤ 13 → (∀ j, j < 13 → 0 ≤ t j ∧ t j ≤ 99) → cDa due k t n = some (t2, n2) → ∀ j, j < 13 → 0 ≤ t2 j ∧ t2 j ≤ 99
  | 0, t, n, t2, n2, _, h, e => by
    cases e
    exact h
  | k + 1, t, n, t2, n2, hk, h, e => by
    unfold cDa at e
    cases e1 : cDp (due (12 - k)) (12 - k) 100 t n with
    | none =>
      rw [e1] at e
      cases e
    | some r =>
      obtain ⟨u, m⟩ := r
      rw [e1] at e
      have g := hd (12 - k) (by omega)
      have b := h (12 - k) (by omega)
      obtain ⟨a1, a2, a3⟩ := cDp_99 (by omega) g 100 t n u m (fun j hj _ => h j hj) (by omega) e1
      refine cDa_99 hd k _ _ t2 n2 (by omega) (fun j hj => ?_) e
      by_cases h3 : j = 12 - k
      · rw [h3, va_up_self]
        omega
      · rw [va_up_ne _ _ h3]
        exact a1 j hj h3
theorem ag_put {a b : Int} {l l2 ra : Nat → Int} (h : IC l l2 ra) : wp (iK_put a b l) (fun r => wp (iM_put a b l2) (fun q => r.1 = q.1 ∧ IC r.2 q.2 ra)) := by
  have hm : ∀ Q : R_iM_put → Prop, ((0 ≤ a ∧ a < 13) ∧ (0 ≤ b ∧ b ≤ 99) → Q (1, va_up l2 a.toNat b)) → (¬ ((0 ≤ a ∧ a < 13) ∧ (0 ≤ b ∧ b ≤ 99)) → Q (0, l2)) → wp (iM_put a b l2) Q := fun Q q1 q2 => by
    unfold iM_put
    rw [wp_bd1, w_isIn]
    refine ⟨fun x => ?_, fun x => ?_⟩
    · rw [if_neg (by decide), wp_bd1, w_isIn]
      refine ⟨fun y => ?_, fun y => ?_⟩
      · rw [if_neg (by decide), wp_gd, wp_some]
        exact ⟨jb_iff.mpr (by omega), q1 ⟨by omega, y⟩⟩
      · rw [if_pos rfl, wp_some]
        exact q2 (fun w => y w.2)
    · rw [if_pos rfl, wp_some]
      exact q2 (fun w => x (by omega))
  unfold iK_put iCounters_set
  have no : ¬ ((0 ≤ a ∧ a < 13) ∧ (0 ≤ b ∧ b ≤ 99)) → wp (some ((0 : Int), l)) (fun r => wp (gd (jB r.1) <| some (r.1, r.2)) (fun r => wp (iM_put a b l2) (fun q => r.1 = q.1 ∧ IC r.2 q.2 ra))) := fun hn => by
    rw [wp_some, wp_gd, wp_some]
    exact ⟨jB_iff.mpr (Or.inl rfl), hm _ (fun w => absurd w hn) (fun _ => ⟨rfl, h⟩)⟩
  rw [wp_bd2, wp_bd1, w_isPlace]
  refine ⟨fun x => ?_, fun x => ?_⟩
  · rw [if_neg (by decide), wp_ite]
    refine ⟨fun y => no (by omega), fun y => ?_⟩
    rw [wp_ite]
    refine ⟨fun z => ?_, fun z => no (by omega)⟩
    rw [wp_gd, wp_some, wp_gd, wp_some]
    refine ⟨jb_iff.mpr (by omega), jB_iff.mpr (Or.inr rfl), hm _ (fun _ => ⟨rfl, fun p hp => ?_, fun p hp => ?_, h.2.2⟩) (fun w => by omega)⟩
    · show 0 ≤ va_up l a.toNat b p ∧ va_up l a.toNat b p ≤ 99
      by_cases e : p = a.toNat
      · rw [e, va_up_self]
        omega
      · rw [va_up_ne _ _ e]
        exact h.1 p hp
    · show va_up l2 a.toNat b p = va_up l a.toNat b p
      by_cases e : p = a.toNat
      · rw [e, va_up_self, va_up_self]
      · rw [va_up_ne _ _ e, va_up_ne _ _ e]
        exact h.2.1 p hp
  · rw [if_pos rfl]
    exact no (fun w => x w.1)
theorem ag_lies {a : Int} {l l2 ra : Nat → Int} (h : IC l l2 ra) : wp (iK_lies a l) (fun r => wp (iM_lies a l2) (fun q => r = q)) := by
  unfold iK_lies iCounters_countAt iM_lies
  rw [wp_bd1, wp_bd1, w_isPlace]
  refine ⟨fun x => ?_, fun x => ?_⟩
  · rw [if_neg (by decide), wp_gd, wp_some, wp_some, wp_bd1, w_isIn]
    refine ⟨jb_iff.mpr (by omega), fun _ => ?_, fun w => by omega⟩
    rw [if_neg (by decide), wp_gd, wp_some]
    exact ⟨jb_iff.mpr (by omega), (h.2.1 a.toNat (by omega)).symm⟩
  · rw [if_pos rfl, wp_some, wp_some, wp_bd1, w_isIn]
    refine ⟨fun w => by omega, fun _ => ?_⟩
    rw [if_pos rfl, wp_some]
theorem ag_worth {N : Nat} (hN : 5000 ≤ N) {l l2 ra : Nat → Int} (h : IC l l2 ra) : wp (iK_worth N l) (fun r => wp (iM_worth N l2 ra) (fun q => r = q)) := by
  unfold iK_worth
  rw [wp_bd1]
  refine wp_mono (w_total hN h.1) (fun r hr => ?_)
  rw [wp_some]
  refine wp_mono (w_worth hN h.2.2 (IC_2 h)) (fun q hq => ?_)
  rw [hr, hq]
  exact (cV_cg 13 (fun j hj => h.2.1 j hj)).symm
theorem ag_plain {N : Nat} (hN : 5000 ≤ N) {s a : Int} {l l2 ra du pl : Nat → Int} (h : IC l l2 ra) : wp (iK_plain N s a du) (fun r => wp (iM_plain N s a pl ra) (fun q => r.1 = q.1)) := by
  have hm : ∀ Q : R_iM_plain → Prop, ((0 ≤ s ∧ s ≤ 1000000000) ∧ (0 ≤ a ∧ a < 13) → ∀ p2, Q (cP s a.toNat, p2)) → (¬ ((0 ≤ s ∧ s ≤ 1000000000) ∧ (0 ≤ a ∧ a < 13)) → ∀ p2, Q (-1, p2)) → wp (iM_plain N s a pl ra) Q := fun Q q1 q2 => by
    unfold iM_plain
    rw [wp_bd1, w_isIn]
    refine ⟨fun x => ?_, fun x => ?_⟩
    · rw [if_neg (by decide), wp_bd1, w_isIn]
      refine ⟨fun y => ?_, fun y => ?_⟩
      · rw [if_neg (by decide), wp_bd1]
        refine wp_mono (w_plains hN h.2.2 x.1 x.2) (fun r hr => ?_)
        rw [wp_gd, wp_some, hr a.toNat (by omega)]
        exact ⟨jb_iff.mpr (by omega), q1 ⟨x, by omega⟩ _⟩
      · rw [if_pos rfl, wp_some]
        exact q2 (fun w => y (by omega)) _
    · rw [if_pos rfl, wp_some]
      exact q2 (fun w => x w.1) _
  unfold iK_plain iCounters_plainAt
  rw [wp_bd2, wp_bd1, w_isPlace]
  refine ⟨fun x => ?_, fun x => ?_⟩
  · rw [if_neg (by decide), wp_bd2]
    by_cases hs : 0 ≤ s ∧ s ≤ 1000000000
    · refine wp_mono (w_tellPlain hN hs.1 hs.2) (fun r ⟨r1, r2⟩ => ?_)
      rw [if_neg (by omega), wp_gd, wp_some, wp_some]
      exact ⟨jb_iff.mpr (by omega), hm _ (fun _ p2 => r2 a.toNat (by omega)) (fun w => absurd ⟨hs, x⟩ w)⟩
    · rw [w_tellPlain_no hs, wp_some, if_pos rfl, wp_some, wp_some]
      exact hm _ (fun w => absurd w.1 hs) (fun _ p2 => rfl)
  · rw [if_pos rfl, wp_some, wp_some]
    exact hm _ (fun w => absurd w.2 x) (fun _ p2 => rfl)
theorem ag_lay {N : Nat} (hN : 5000 ≤ N) {s : Int} {l l2 ra du tr pl w : Nat → Int} (h : IC l l2 ra) : wp (iK_lay N s du l tr) (fun r => wp (iM_lay N s l2 pl ra w) (fun q => r.1 = q.1 ∧ IC r.2.2.1 q.2.1 ra)) := by
  unfold iK_lay
  rw [wp_bd4]
  by_cases hs : 0 ≤ s ∧ s ≤ 1000000000
  · refine wp_mono (w_add hN hs.1 hs.2 h.1) (fun r hr => ?_)
    rw [wp_some]
    refine wp_mono (w_M_lay hN h.2.2 hs.1 hs.2 (IC_2 h)) (fun q hq => ?_)
    obtain ⟨e1, e2, e3⟩ := cLay_eq h.2.1 hr hq hs.1 hs.2 h.1
    exact ⟨e1, e3, e2, h.2.2⟩
  · unfold iCounters_add iM_lay
    rw [wp_bd2, w_tellPlain_no hs, wp_some, if_pos rfl, wp_some, wp_some, wp_bd1, w_isIn]
    refine ⟨fun x => absurd x hs, fun _ => ?_⟩
    rw [if_pos rfl, wp_some]
    exact ⟨rfl, h⟩
theorem ag_draw {N : Nat} (hN : 5000 ≤ N) {s : Int} {l l2 ra du tr pl w : Nat → Int} (h : IC l l2 ra) : wp (iK_draw N s du l tr) (fun r => wp (iM_draw N s l2 pl ra w) (fun q => r.1 = q.1 ∧ IC r.2.2.1 q.2.1 ra)) := by
  unfold iK_draw
  rw [wp_bd4]
  by_cases hs : 0 ≤ s ∧ s ≤ 1000000000
  · refine wp_mono (w_take hN hs.1 hs.2 h.1) (fun r ⟨r1, r2⟩ => ?_)
    rw [wp_some]
    refine wp_mono (w_M_draw hN h.2.2 hs.1 hs.2 (IC_2 h)) (fun q ⟨q1, q2⟩ => ?_)
    have ag : ∀ j, j < 13 → va_cpy l tr 0 0 13 j = l2 j := fun j hj => by
      rw [va_cpy, if_pos (by omega), Nat.sub_zero, Nat.zero_add]
      exact (h.2.1 j hj).symm
    rcases cDa_cg (cP s) 13 _ _ 0 ag with ⟨c1, c2⟩ | ⟨t, u, m, c1, c2, c3⟩
    · obtain ⟨a1, a2⟩ := r1 c1
      obtain ⟨b1, b2⟩ := q1 c2
      refine ⟨a1.trans b1.symm, ?_, fun p hp => ?_, h.2.2⟩
      · rw [a2]
        exact h.1
      · rw [a2, b2 p hp]
        exact h.2.1 p hp
    · obtain ⟨a1, a2⟩ := r2 t m c1
      obtain ⟨b1, b2⟩ := q2 u m c2
      have bd := cDa_99 (due := cP s) (fun j hj => ⟨cP_nn hs.1 j hj, cP_le hs.1 hs.2 j hj⟩) 13 _ 0 t m (Nat.le_refl 13) (fun j hj => by
        rw [ag j hj]
        exact IC_2 h j hj) c1
      refine ⟨a1.trans b1.symm, fun p hp => ?_, fun p hp => ?_, h.2.2⟩
      · show 0 ≤ r.2.2.1 p ∧ r.2.2.1 p ≤ 99
        rw [a2 p hp]
        exact bd p hp
      · rw [a2 p hp, b2 p hp]
        exact (c3 p hp).symm
  · unfold iCounters_take iM_draw
    rw [wp_bd2, w_tellPlain_no hs, wp_some, if_pos rfl, wp_some, wp_some, wp_bd1, w_isIn]
    refine ⟨fun x => absurd x hs, fun _ => ?_⟩
    rw [if_pos rfl, wp_some]
    exact ⟨rfl, h⟩
theorem cSt_cg {L M : Nat → Int} (h : ∀ p, p < 13 → L p = M p) : ∀ p, p < 13 → cSt L p = cSt M p
  | 0, _ => rfl
  | p + 1, hp => by
    unfold cSt
    rw [cSt_cg h p (by omega), h p (by omega)]
theorem ag_steps {N : Nat} (hN : 5000 ≤ N) {s : Int} {l l2 ra du pl f0 g0 : Nat → Int} (h : IC l l2 ra) : wp (iK_steps N s du l) (fun r => wp (iM_steps N s f0 l2 g0 pl ra) (fun q => r.1 = q.1)) := by
  unfold iK_steps
  rw [wp_bd2]
  by_cases hs : 0 ≤ s ∧ s ≤ 1000000000
  · refine wp_mono (w_fewest hN hs.1 hs.2 h.1) (fun r hr => ?_)
    rw [wp_some]
    refine wp_mono (w_M_steps hN h.2.2 hs.1 hs.2 (IC_2 h)) (fun q hq => ?_)
    show r.1 = q.1
    rw [hr, hq, cSt_cg (L := fun p => l2 p - cP s p) (M := fun p => l p - cP s p) (fun p hp => by rw [h.2.1 p hp]) 12 (by omega), h.2.1 12 (by omega)]
  · unfold iCounters_fewestSteps iM_steps
    rw [wp_bd2, w_tellPlain_no hs, wp_some, if_pos rfl, wp_some, wp_some, wp_bd1, w_isIn]
    refine ⟨fun x => absurd x hs, fun _ => ?_⟩
    rw [if_pos rfl, wp_some]
