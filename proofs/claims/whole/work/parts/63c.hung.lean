set_option maxHeartbeats 4000000
set_option maxRecDepth 100000
/-! the Hungarian method: counting, looking, shifting -/
def hCn (f : Nat → Int) : Nat → Nat
  | 0 => 0
  | n + 1 => hCn f n + (if f n = 0 then 0 else 1)
theorem hCn_cg {f g : Nat → Int} : ∀ n, (∀ j, j < n → (f j = 0 ↔ g j = 0)) → hCn f n = hCn g n
  | 0, _ => rfl
  | n + 1, h => by
    show hCn f n + _ = hCn g n + _
    rw [hCn_cg n (fun j hj => h j (by omega))]
    by_cases e : f n = 0
    · rw [if_pos e, if_pos ((h n (by omega)).mp e)]
    · rw [if_neg e, if_neg (fun k => e ((h n (by omega)).mpr k))]
theorem hCn_up {f : Nat → Int} {j : Nat} {x : Int} (hj : f j = 0) (hx : x ≠ 0) : ∀ n, hCn (va_up f j x) n = hCn f n + (if j < n then 1 else 0)
  | 0 => by
    rw [if_neg (by omega)]
    rfl
  | n + 1 => by
    show hCn (va_up f j x) n + _ = hCn f n + _ + _
    rw [hCn_up hj hx n]
    by_cases e : n = j
    · subst e
      rw [va_up_self, if_neg hx, if_neg (Nat.lt_irrefl n), if_pos hj, if_pos (Nat.lt_succ_self n)]
    · rw [va_up_ne _ _ e]
      by_cases h : j < n
      · rw [if_pos h, if_pos (show j < n + 1 by omega)]
        omega
      · rw [if_neg h, if_neg (show ¬ j < n + 1 by omega)]
        omega
theorem hCn_all {f : Nat → Int} : ∀ n, (∀ j, j < n → f j ≠ 0) → hCn f n = n
  | 0, _ => rfl
  | n + 1, h => by
    show hCn f n + _ = _
    rw [hCn_all n (fun j hj => h j (by omega)), if_neg (h n (by omega))]
theorem hCn_le {p : Nat → Int} {n : Nat} : ∀ (m : Nat) (f : Nat → Int), (∀ j, j < n → f j ≠ 0 → 1 ≤ p j ∧ p j ≤ m) → (∀ j k, j < n → k < n → f j ≠ 0 → f k ≠ 0 → p j = p k → j = k) → hCn f n ≤ m
  | 0, f, h, _ => by
    have : hCn f n = hCn (fun _ => 0) n := hCn_cg n (fun j hj => by
      by_cases e : f j = 0
      · simp [e]
      · have := h j hj e
        omega)
    rw [this]
    have : ∀ q, hCn (fun _ => 0) q = 0 := fun q => by
      induction q with
      | zero => rfl
      | succ q ih =>
        show hCn (fun _ => 0) q + _ = 0
        rw [ih]
        rfl
    rw [this]
    exact Nat.le_refl 0
  | m + 1, f, h, k => by
    by_cases e : ∃ j, j < n ∧ f j ≠ 0 ∧ p j = ((m + 1 : Nat) : Int)
    · obtain ⟨j, h1, h2, h3⟩ := e
      have ih := hCn_le (p := p) (n := n) m (va_up f j 0) (fun q hq hf => by
        by_cases e : q = j
        · rw [e, va_up_self] at hf
          exact absurd rfl hf
        · rw [va_up_ne _ _ e] at hf
          have a := h q hq hf
          by_cases e2 : p q = ((m + 1 : Nat) : Int)
          · exact absurd (k q j hq h1 hf h2 (by omega)) e
          · omega) (fun q r hq hr hf hg hp => by
        by_cases e : q = j
        · rw [e, va_up_self] at hf
          exact absurd rfl hf
        · by_cases e2 : r = j
          · rw [e2, va_up_self] at hg
            exact absurd rfl hg
          · rw [va_up_ne _ _ e] at hf
            rw [va_up_ne _ _ e2] at hg
            exact k q r hq hr hf hg hp)
      have u := hCn_up (f := va_up f j 0) (j := j) (x := 1) (va_up_self _ _ _) (by decide) n
      have c := hCn_cg (f := va_up (va_up f j 0) j 1) (g := f) n (fun q hq => by
        by_cases e : q = j
        · rw [e, va_up_self]
          simp [h2]
        · rw [va_up_ne _ _ e, va_up_ne _ _ e])
      rw [if_pos h1] at u
      omega
    · have ih := hCn_le (p := p) (n := n) m f (fun q hq hf => by
        have a := h q hq hf
        have : ¬ p q = ((m + 1 : Nat) : Int) := fun e2 => e ⟨q, hq, hf, e2⟩
        omega) k
      omega
/-- a free column among the idle ones -/
theorem hFree {p : Nat → Int} {m : Nat} (hm : m ≤ 9) (h : ∀ j, 1 ≤ j → j ≤ 20 → p j = 0 ∨ (1 ≤ p j ∧ p j ≤ m)) (k : ∀ j q, 1 ≤ j → j ≤ 20 → 1 ≤ q → q ≤ 20 → p j ≠ 0 → p j = p q → j = q) : ∃ j, 11 ≤ j ∧ j ≤ 20 ∧ p j = 0 := by
  by_cases e : ∃ j, 11 ≤ j ∧ j ≤ 20 ∧ p j = 0
  · exact e
  · exfalso
    have ne : ∀ j, j < 10 → p (11 + j) ≠ 0 := fun j hj h0 => e ⟨11 + j, by omega, by omega, h0⟩
    have a := hCn_all (f := fun j => p (11 + j)) 10 ne
    have b := hCn_le (p := fun j => p (11 + j)) (n := 10) m (fun j => p (11 + j)) (fun j hj hf => by
      rcases h (11 + j) (by omega) (by omega) with x | x
      · exact absurd x hf
      · exact x) (fun j q hj hq hf _ he => by
      have := k (11 + j) (11 + q) (by omega) (by omega) (by omega) (by omega) hf he
      omega)
    omega
def hBd (f : Nat → Int) (n : Nat) : Prop := ∀ j, j < n → -10000000000000000 ≤ f j ∧ f j ≤ 10000000000000000
theorem w_look {N : Nat} (hN : 5000 ≤ N) {j0 : Nat} {w v g R p u : Nat → Int} {C : Nat → Nat → Int} {i0 : Nat} (hj0 : j0 < 21) (hp : p j0 = i0) (hi0 : i0 < 11) (hu : hBd u 11) (hv : hBd v 21) (hC : ∀ r j, r < 11 → j < 21 → -1000000000000000 ≤ C r j ∧ C r j ≤ 1000000000000000) (hex : ∃ j, 1 ≤ j ∧ j ≤ 20 ∧ R j = 0) : wp (iMatcher_lookFrom N j0 w v C g R p u) (fun r => ∃ n : Nat, r.1 = n ∧ 1 ≤ n ∧ n ≤ 20 ∧ R n = 0 ∧ (∀ j, 1 ≤ j → j ≤ 20 → R j = 0 → r.2.2 j = jmin (g j) (C i0 j - u i0 - v j) ∧ r.2.1 j = (if C i0 j - u i0 - v j < g j then (j0 : Int) else w j) ∧ r.2.2 n ≤ r.2.2 j) ∧ ∀ j, R j ≠ 0 → r.2.1 j = w j) := by
  have ej : (j0 : Int).toNat = j0 := rfl
  have ei : (i0 : Int).toNat = i0 := rfl
  unfold iMatcher_lookFrom iMatcher_lookFrom_b17
  rw [wp_gd, ej, hp]
  refine ⟨jb_iff.mpr (by omega), ?_⟩
  refine wp_zlp5 (fun (k : Nat) (x3 x4 x6 : Int) (w2 g2 : Nat → Int) => ∃ j : Nat, x6 = j ∧ j + k = 21 ∧ 1 ≤ j ∧ (∀ q, 1 ≤ q → q < j → R q = 0 → g2 q = jmin (g q) (C i0 q - u i0 - v q) ∧ w2 q = (if C i0 q - u i0 - v q < g q then (j0 : Int) else w q)) ∧ (∀ q, j ≤ q → g2 q = g q ∧ w2 q = w q) ∧ (∀ q, R q ≠ 0 → w2 q = w q) ∧ ((x3 = 0 ∧ x4 = 1152921504606846976 ∧ ∀ q, 1 ≤ q → q < j → R q ≠ 0) ∨ ∃ n : Nat, x3 = n ∧ 1 ≤ n ∧ n < j ∧ R n = 0 ∧ x4 = g2 n ∧ x4 < 1152921504606846976 ∧ ∀ q, 1 ≤ q → q < j → R q = 0 → x4 ≤ g2 q)) ?_ N 20 0 1152921504606846976 1 w g (by omega) ⟨1, rfl, rfl, by omega, fun q h1 h2 => by omega, fun q _ => ⟨rfl, rfl⟩, fun q _ => rfl, Or.inl ⟨rfl, rfl, fun q h1 h2 => by omega⟩⟩
  intro self k x3 x4 x6 w2 g2 ⟨j, e1, e2, e3, e4, e5, e6, e7⟩ ih
  subst e1
  have ejj : (j : Int).toNat = j := rfl
  unfold iMatcher_lookFrom_b17_F
  cases k with
  | zero =>
    rw [if_pos (by omega), wp_some]
    rcases e7 with ⟨a1, a2, a3⟩ | ⟨n, a1, a2, a3, a4, a5, a6, a7⟩
    · obtain ⟨q, h1, h2, h3⟩ := hex
      exact absurd h3 (a3 q h1 (by omega))
    · refine ⟨n, a1, a2, by omega, a4, fun q h1 h2 h3 => ?_, e6⟩
      have b := e4 q h1 (by omega) h3
      have c := a7 q h1 (by omega) h3
      exact ⟨b.1, b.2, by show g2 n ≤ g2 q; omega⟩
  | succ k =>
    rw [if_neg (by omega), wp_gd, wp_ite, ejj]
    have nx : ∀ (x : Int), x = (j : Int) + 1 → x = ((j + 1 : Nat) : Int) := fun x h => by omega
    refine ⟨jb_iff.mpr (by omega), fun hR => ?_, fun hR => ?_⟩
    · have bu := hu i0 hi0
      have bv := hv j (by omega)
      have bC := hC i0 j hi0 (by omega)
      have g5 := e5 j (Nat.le_refl j)
      -- the second half
      have b90 : ∀ (w3 g3 : Nat → Int), (∀ q, q ≠ j → g3 q = g2 q ∧ w3 q = w2 q) → g3 j = jmin (g j) (C i0 j - u i0 - v j) → w3 j = (if C i0 j - u i0 - v j < g j then (j0 : Int) else w j) → g3 j < 1152921504606846976 → wp (iMatcher_lookFrom_b90 N j0 v C R p u self i0 x3 x4 j w3 g3) (fun r => ∃ n : Nat, r.1 = n ∧ 1 ≤ n ∧ n ≤ 20 ∧ R n = 0 ∧ (∀ j, 1 ≤ j → j ≤ 20 → R j = 0 → r.2.2 j = jmin (g j) (C i0 j - u i0 - v j) ∧ r.2.1 j = (if C i0 j - u i0 - v j < g j then (j0 : Int) else w j) ∧ r.2.2 n ≤ r.2.2 j) ∧ ∀ j, R j ≠ 0 → r.2.1 j = w j) := fun w3 g3 o1 o2 o3 o4 => by
        have c1 : ∀ q, 1 ≤ q → q < j + 1 → R q = 0 → g3 q = jmin (g q) (C i0 q - u i0 - v q) ∧ w3 q = (if C i0 q - u i0 - v q < g q then (j0 : Int) else w q) := fun q h1 h2 h3 => by
          by_cases e : q = j
          · rw [e]
            exact ⟨o2, o3⟩
          · rw [(o1 q e).1, (o1 q e).2]
            exact e4 q h1 (by omega) h3
        have c2 : ∀ q, j + 1 ≤ q → g3 q = g q ∧ w3 q = w q := fun q h1 => by
          rw [(o1 q (by omega)).1, (o1 q (by omega)).2]
          exact e5 q (by omega)
        have c3 : ∀ q, R q ≠ 0 → w3 q = w q := fun q h1 => by
          have : q ≠ j := fun e => h1 (e ▸ hR)
          rw [(o1 q this).2]
          exact e6 q h1
        unfold iMatcher_lookFrom_b90
        rw [wp_gd, wp_ite, ejj]
        refine ⟨jb_iff.mpr (by omega), fun hle => ?_, fun hgt => ?_⟩
        · rw [wp_gd]
          refine ⟨jr_iff.mpr (by omega), ih k _ _ _ _ _ (Nat.lt_succ_self k) ⟨j + 1, by omega, by omega, by omega, c1, c2, c3, ?_⟩⟩
          rcases e7 with ⟨a1, a2, a3⟩ | ⟨n, a1, a2, a3, a4, a5, a6, a7⟩
          · omega
          · refine Or.inr ⟨n, a1, a2, by omega, a4, ?_, a6, fun q h1 h2 h3 => ?_⟩
            · rw [(o1 n (by omega)).1]
              exact a5
            · by_cases e : q = j
              · rw [e]
                exact hle
              · rw [(o1 q e).1]
                exact a7 q h1 (by omega) h3
        · rw [wp_gd]
          refine ⟨jr_iff.mpr (by omega), ih k _ _ _ _ _ (Nat.lt_succ_self k) ⟨j + 1, by omega, by omega, by omega, c1, c2, c3, Or.inr ⟨j, rfl, e3, by omega, hR, rfl, o4, fun q h1 h2 h3 => ?_⟩⟩⟩
          by_cases e : q = j
          · rw [e]
            exact Int.le_refl _
          · rw [(o1 q e).1]
            rcases e7 with ⟨a1, a2, a3⟩ | ⟨n, a1, a2, a3, a4, a5, a6, a7⟩
            · exact absurd h3 (a3 q h1 (by omega))
            · have := a7 q h1 (by omega) h3
              omega
      simp only [wp_gd, wp_ite, jb_iff, jR_iff, ei]
      refine ⟨by omega, by omega, by omega, fun hle => b90 w2 g2 (fun q _ => ⟨rfl, rfl⟩) ?_ ?_ ?_, fun hgt => b90 _ _ (fun q hq => ⟨va_up_ne _ _ hq, va_up_ne _ _ hq⟩) ?_ ?_ ?_⟩
      · rw [g5.1] at hle ⊢
        rw [jmin_le hle]
      · rw [g5.1] at hle
        rw [g5.2, if_neg (by omega)]
      · have := jmin_s (g j) (C i0 j - u i0 - v j)
        omega
      · rw [g5.1] at hgt
        rw [va_up_self, jmin_gt hgt]
      · rw [g5.1] at hgt
        rw [va_up_self, if_pos (by omega)]
      · rw [va_up_self]
        omega
    · rw [wp_gd]
      refine ⟨jr_iff.mpr (by omega), ih k _ _ _ _ _ (Nat.lt_succ_self k) ⟨j + 1, by omega, by omega, by omega, fun q h1 h2 h3 => ?_, fun q h1 => e5 q (by omega), e6, ?_⟩⟩
      · by_cases e : q = j
        · exact absurd (e ▸ h3) hR
        · exact e4 q h1 (by omega) h3
      · rcases e7 with ⟨a1, a2, a3⟩ | ⟨n, a1, a2, a3, a4, a5, a6, a7⟩
        · refine Or.inl ⟨a1, a2, fun q h1 h2 => ?_⟩
          by_cases e : q = j
          · rw [e]
            exact hR
          · exact a3 q h1 (by omega)
        · refine Or.inr ⟨n, a1, a2, by omega, a4, a5, a6, fun q h1 h2 h3 => ?_⟩
          by_cases e : q = j
          · exact absurd (e ▸ h3) hR
          · exact a7 q h1 (by omega) h3
theorem w_shift {N : Nat} (hN : 5000 ≤ N) {δ : Int} {v g R p u : Nat → Int} (hδ : -1000000000000000 ≤ δ ∧ δ ≤ 1000000000000000) (hu : hBd u 11) (hv : hBd v 21) (hg : ∀ j, j < 21 → R j = 0 → -1000000000000000 ≤ g j ∧ g j ≤ 2000000000000000000) (hp : ∀ j, j < 21 → R j ≠ 0 → 0 ≤ p j ∧ p j < 11) (hi : ∀ j k, j < 21 → k < 21 → R j ≠ 0 → R k ≠ 0 → p j = p k → j = k) : wp (iMatcher_shiftPrices N δ v g R p u) (fun r => (∀ j, j < 21 → (R j ≠ 0 → r.1 j = v j - δ) ∧ (R j = 0 → r.1 j = v j ∧ r.2.1 j = g j - δ)) ∧ (∀ j, j < 21 → R j ≠ 0 → r.2.2 (p j).toNat = u (p j).toNat + δ) ∧ ∀ r2, (∀ j, j < 21 → R j ≠ 0 → (p j).toNat ≠ r2) → r.2.2 r2 = u r2) := by
  unfold iMatcher_shiftPrices iMatcher_shiftPrices_b2
  refine wp_zlp4 (fun (k : Nat) (x3 : Int) (v2 g2 u2 : Nat → Int) => ∃ j : Nat, x3 = j ∧ j + k = 21 ∧ (∀ q, q < j → (R q ≠ 0 → v2 q = v q - δ) ∧ (R q = 0 → v2 q = v q ∧ g2 q = g q - δ)) ∧ (∀ q, j ≤ q → v2 q = v q ∧ g2 q = g q) ∧ (∀ q, q < j → R q ≠ 0 → u2 (p q).toNat = u (p q).toNat + δ) ∧ ∀ r2, (∀ q, q < j → R q ≠ 0 → (p q).toNat ≠ r2) → u2 r2 = u r2) ?_ N 21 0 v g u (by omega) ⟨0, rfl, rfl, fun q h => by omega, fun q _ => ⟨rfl, rfl⟩, fun q h => by omega, fun r2 _ => rfl⟩
  intro self k x3 v2 g2 u2 ⟨j, e1, e2, e3, e4, e5, e6⟩ ih
  subst e1
  have ej : (j : Int).toNat = j := rfl
  unfold iMatcher_shiftPrices_b2_F
  cases k with
  | zero =>
    rw [if_pos (by omega), wp_some]
    have : j = 21 := by omega
    subst this
    exact ⟨e3, e5, e6⟩
  | succ k =>
    have h4 := e4 j (Nat.le_refl j)
    have bv := hv j (by omega)
    rw [if_neg (by omega), wp_gd, wp_ite, ej]
    refine ⟨jb_iff.mpr (by omega), fun hR => ?_, fun hR => ?_⟩
    · have bg := hg j (by omega) hR
      rw [wp_gd, wp_gd, h4.2]
      refine ⟨jr_iff.mpr (by omega), jR_iff.mpr (by omega), ih k _ _ _ _ (Nat.lt_succ_self k) ⟨j + 1, by omega, by omega, fun q hq => ?_, fun q hq => ?_, fun q hq hq2 => ?_, fun r2 hr => ?_⟩⟩
      · by_cases e : q = j
        · subst e
          refine ⟨fun n => absurd hR n, fun _ => ⟨h4.1, ?_⟩⟩
          rw [va_up_self]
        · rw [va_up_ne _ _ e]
          exact e3 q (by omega)
      · rw [va_up_ne _ _ (by omega)]
        exact e4 q (by omega)
      · by_cases e : q = j
        · exact absurd (e ▸ hR) hq2
        · exact e5 q (by omega) hq2
      · exact e6 r2 (fun q hq hq2 => hr q (by omega) hq2)
    · have bp := hp j (by omega) hR
      have bu := hu (p j).toNat (by omega)
      have same : u2 (p j).toNat = u (p j).toNat := e6 _ (fun q hq hq2 he => by
        have b2 := hp q (by omega) hq2
        have := hi q j (by omega) (by omega) hq2 hR (by omega)
        omega)
      rw [wp_gd, wp_gd, wp_gd, wp_gd, h4.1, same]
      refine ⟨jb_iff.mpr (by omega), jr_iff.mpr (by omega), jR_iff.mpr (by omega), jR_iff.mpr (by omega), ih k _ _ _ _ (Nat.lt_succ_self k) ⟨j + 1, by omega, by omega, fun q hq => ?_, fun q hq => ?_, fun q hq hq2 => ?_, fun r2 hr => ?_⟩⟩
      · by_cases e : q = j
        · subst e
          refine ⟨fun _ => ?_, fun n => absurd n hR⟩
          rw [va_up_self]
        · rw [va_up_ne _ _ e]
          exact e3 q (by omega)
      · rw [va_up_ne _ _ (by omega)]
        exact e4 q (by omega)
      · by_cases e : q = j
        · rw [e, va_up_self]
        · have b2 := hp q (by omega) hq2
          rw [va_up_ne _ _ (fun he => e (hi q j (by omega) (by omega) hq2 hR (by omega)))]
          exact e5 q (by omega) hq2
      · rw [va_up_ne _ _ (fun he => hr j (by omega) hR he.symm)]
        exact e6 r2 (fun q hq hq2 => hr q (by omega) hq2)
