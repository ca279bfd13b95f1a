set_option maxHeartbeats 4000000
set_option maxRecDepth 100000
/-! the matcher's answer is the best -/
def hV (v : Nat → Int) : Nat → Int
  | 0 => 0
  | n + 1 => hV v n + (if n = 0 then 0 else v n)
theorem hV_up {v : Nat → Int} {j : Nat} (hj : 1 ≤ j) : ∀ n, hV (va_up v j 0) n = hV v n - (if j < n then v j else 0)
  | 0 => by
    rw [if_neg (by omega)]
    rfl
  | n + 1 => by
    show hV (va_up v j 0) n + _ = hV v n + _ - _
    rw [hV_up hj n]
    by_cases e : n = j
    · subst e
      rw [va_up_self, if_neg (Nat.lt_irrefl n), if_neg (by omega), if_neg (by omega), if_pos (Nat.lt_succ_self n)]
      omega
    · rw [va_up_ne _ _ e]
      by_cases h : j < n
      · rw [if_pos h, if_pos (show j < n + 1 by omega)]
        omega
      · rw [if_neg h, if_neg (show ¬ j < n + 1 by omega)]
        omega
theorem hV_0 {v : Nat → Int} : ∀ n, (∀ j, 1 ≤ j → j < n → v j = 0) → hV v n = 0
  | 0, _ => rfl
  | n + 1, h => by
    show hV v n + _ = 0
    rw [hV_0 n (fun j a b => h j a (by omega))]
    by_cases e : n = 0
    · rw [if_pos e]
      rfl
    · rw [if_neg e, h n (by omega) (by omega)]
      rfl
theorem hV_np {v : Nat → Int} : ∀ n, (∀ j, 1 ≤ j → j < n → v j ≤ 0) → hV v n ≤ 0
  | 0, _ => Int.le_refl 0
  | n + 1, h => by
    have ih := hV_np n (fun j a b => h j a (by omega))
    show hV v n + _ ≤ 0
    by_cases e : n = 0
    · rw [if_pos e]
      omega
    · have := h n (by omega) (by omega)
      rw [if_neg e]
      omega
theorem mS_cg {f g : Nat → Int} : ∀ n, n ≤ 10 → (∀ r, 10 - n ≤ r → r < 10 → f r = g r) → mS f n = mS g n
  | 0, _, _ => rfl
  | n + 1, hn, h => by
    show f (9 - n) + mS f n = g (9 - n) + mS g n
    rw [mS_cg n (by omega) (fun r a b => h r (by omega) b), h (9 - n) (by omega) (by omega)]
theorem mS_le {f g : Nat → Int} : ∀ n, n ≤ 10 → (∀ r, 10 - n ≤ r → r < 10 → f r ≤ g r) → mS f n ≤ mS g n
  | 0, _, _ => Int.le_refl 0
  | n + 1, hn, h => by
    have a := mS_le n (by omega) (fun r a b => h r (by omega) b)
    have b := h (9 - n) (by omega) (by omega)
    show f (9 - n) + mS f n ≤ g (9 - n) + mS g n
    omega
theorem mS_add {f g : Nat → Int} : ∀ n, mS (fun r => f r + g r) n = mS f n + mS g n
  | 0 => rfl
  | n + 1 => by
    show f (9 - n) + g (9 - n) + mS (fun r => f r + g r) n = f (9 - n) + mS f n + (g (9 - n) + mS g n)
    rw [mS_add n]
    omega
/-- over columns that differ: at least what all are worth -/
theorem hV_ge {τ : Nat → Nat} : ∀ (n : Nat) (v : Nat → Int), n ≤ 10 → (∀ r, 10 - n ≤ r → r < 10 → 1 ≤ τ r ∧ τ r ≤ 20) → (∀ r q, 10 - n ≤ r → r < 10 → 10 - n ≤ q → q < 10 → τ r = τ q → r = q) → (∀ j, 1 ≤ j → j ≤ 20 → v j ≤ 0) → hV v 21 ≤ mS (fun r => v (τ r)) n
  | 0, v, _, _, _, hv => hV_np 21 (fun j a b => hv j a (by omega))
  | n + 1, v, hn, h1, h2, hv => by
    have t := h1 (9 - n) (by omega) (by omega)
    have ih := hV_ge n (va_up v (τ (9 - n)) 0) (by omega) (fun r a b => h1 r (by omega) b) (fun r q a b c d e => h2 r q (by omega) b (by omega) d e) (fun j a b => by
      by_cases e : j = τ (9 - n)
      · rw [e, va_up_self]
        omega
      · rw [va_up_ne _ _ e]
        exact hv j a b)
    rw [hV_up t.1, if_pos (by omega)] at ih
    rw [mS_cg (f := fun r => va_up v (τ (9 - n)) 0 (τ r)) (g := fun r => v (τ r)) n (by omega) (fun r a b => va_up_ne _ _ (fun e => by
      have := h2 r (9 - n) (by omega) b (by omega) (by omega) e
      omega))] at ih
    show hV v 21 ≤ v (τ (9 - n)) + mS (fun r => v (τ r)) n
    omega
theorem hV_eq {τ : Nat → Nat} : ∀ (n : Nat) (v : Nat → Int), n ≤ 10 → (∀ r, 10 - n ≤ r → r < 10 → 1 ≤ τ r ∧ τ r ≤ 20) → (∀ r q, 10 - n ≤ r → r < 10 → 10 - n ≤ q → q < 10 → τ r = τ q → r = q) → (∀ j, 1 ≤ j → j ≤ 20 → (∀ r, 10 - n ≤ r → r < 10 → τ r ≠ j) → v j = 0) → hV v 21 = mS (fun r => v (τ r)) n
  | 0, v, _, _, _, hv => hV_0 21 (fun j a b => hv j a (by omega) (fun r c d => by omega))
  | n + 1, v, hn, h1, h2, hv => by
    have t := h1 (9 - n) (by omega) (by omega)
    have ih := hV_eq n (va_up v (τ (9 - n)) 0) (by omega) (fun r a b => h1 r (by omega) b) (fun r q a b c d e => h2 r q (by omega) b (by omega) d e) (fun j a b hj => by
      by_cases e : j = τ (9 - n)
      · rw [e, va_up_self]
      · rw [va_up_ne _ _ e]
        refine hv j a b (fun r c d e2 => ?_)
        by_cases e3 : r = 9 - n
        · exact e (by rw [← e3]; exact e2.symm)
        · exact hj r (by omega) d e2)
    rw [hV_up t.1, if_pos (by omega)] at ih
    rw [mS_cg (f := fun r => va_up v (τ (9 - n)) 0 (τ r)) (g := fun r => v (τ r)) n (by omega) (fun r a b => va_up_ne _ _ (fun e => by
      have := h2 r (9 - n) (by omega) b (by omega) (by omega) e
      omega))] at ih
    show hV v 21 = v (τ (9 - n)) + mS (fun r => v (τ r)) n
    omega
/-- the matcher's costs -/
def hC (lim : Int) (F : Nat → Nat → Int) (C : Nat → Nat → Int) : Prop := (∀ r j, r < 10 → j < 10 → C (r + 1) (j + 1) = if F r j ≤ lim then F r j * 25937424601 - 129738997854202 + ((j : Int) - 10) * 11 ^ (9 - r) else 0) ∧ (∀ r j, r < 11 → 11 ≤ j → j < 21 → C r j = 0) ∧ (∀ j, j < 21 → C 0 j = 0) ∧ ∀ r, r < 11 → C r 0 = 0
theorem pow11 : ∀ r, r < 10 → (1 : Int) ≤ 11 ^ r ∧ (11 : Int) ^ r ≤ 2357947691 := by decide
theorem hC_v {lim : Int} {F C : Nat → Nat → Int} (hok : mOk lim F) (h : hC lim F C) {r j : Nat} (hr : r < 10) (hj : j < 10) : (F r j ≤ lim → -129762577331112 ≤ C (r + 1) (j + 1) ∧ C (r + 1) (j + 1) < 0) ∧ (¬ F r j ≤ lim → C (r + 1) (j + 1) = 0) := by
  have e := h.1 r j hr hj
  refine ⟨fun k => ?_, fun k => ?_⟩
  · rw [if_pos k] at e
    have a := hok.2 r j hr hj
    have b := hok.1
    have c := pow11 (9 - r) (by omega)
    have m1 : ((j : Int) - 10) * 11 ^ (9 - r) ≤ 0 := Int.mul_nonpos_of_nonpos_of_nonneg (by omega) (by omega)
    have m2 : -10 * 2357947691 ≤ ((j : Int) - 10) * 11 ^ (9 - r) := by
      have x := Int.mul_le_mul_of_nonneg_right (show -10 ≤ (j : Int) - 10 by omega) (show (0 : Int) ≤ 11 ^ (9 - r) by omega)
      omega
    omega
  · rw [if_neg k] at e
    exact e
theorem hC_K {lim : Int} {F C : Nat → Nat → Int} (hok : mOk lim F) (h : hC lim F C) : hK C := by
  refine ⟨fun r j hr hj => ?_, h.2.1⟩
  by_cases h1 : r = 0
  · rw [h1, h.2.2.1 j hj]
    omega
  · by_cases h2 : j = 0
    · rw [h2, h.2.2.2 r hr]
      omega
    · by_cases h3 : 11 ≤ j
      · rw [h.2.1 r j hr h3 hj]
        omega
      · obtain ⟨r, rfl⟩ : ∃ r', r = r' + 1 := ⟨r - 1, by omega⟩
        obtain ⟨j, rfl⟩ : ∃ j', j = j' + 1 := ⟨j - 1, by omega⟩
        have v := hC_v hok h (r := r) (j := j) (by omega) (by omega)
        by_cases h4 : F r j ≤ lim
        · have := v.1 h4
          omega
        · have := v.2 h4
          omega
/-- a matching's cost, by the matcher's costs -/
theorem hC_cost {lim : Int} {F C : Nat → Nat → Int} {m : Nat → Int} (h : hC lim F C) (hm : mVal lim F m) : ∀ n, n ≤ 10 → mCost F m n = mS (fun r => if m r = -1 then 0 else C (r + 1) ((m r).toNat + 1)) n
  | 0, _ => by
    show (25937424601 : Int) * (0 - 5002 * 0) + 0 = 0
    omega
  | n + 1, hn => by
    have ih := hC_cost h hm n (by omega)
    have e1 : mQ F m (n + 1) = (if m (9 - n) = -1 then 0 else F (9 - n) (m (9 - n)).toNat) + mQ F m n := rfl
    have e2 : mN m (n + 1) = (if m (9 - n) = -1 then 0 else 1) + mN m n := rfl
    have e3 : mZ m (n + 1) = mDg m (9 - n) * 11 ^ n + mZ m n := rfl
    have e4 : mDg m (9 - n) = if m (9 - n) = -1 then 0 else m (9 - n) - 10 := rfl
    show mCost F m (n + 1) = (if m (9 - n) = -1 then 0 else C (9 - n + 1) ((m (9 - n)).toNat + 1)) + mS (fun r => if m r = -1 then 0 else C (r + 1) ((m r).toNat + 1)) n
    rw [← ih]
    unfold mCost
    rw [e1, e2, e3, e4]
    rcases hm.1 (9 - n) (by omega) with x | ⟨j, a, b, c⟩
    · rw [if_pos x, if_pos x, if_pos x, if_pos x]
      omega
    · have hne : ¬ m (9 - n) = -1 := by omega
      have ej : (m (9 - n)).toNat = j := by omega
      rw [if_neg hne, if_neg hne, if_neg hne, if_neg hne, ej, h.1 (9 - n) j (by omega) a, if_pos c, b, show 9 - (9 - n) = n by omega]
      omega
/-- the matcher's answer: a matching, none cheaper -/
theorem hM_best {lim : Int} {F C : Nat → Nat → Int} {m : Nat → Int} (hok : mOk lim F) (h : hC lim F C) (hM : hM C m) : mVal lim F m ∧ ∀ m2, mVal lim F m2 → mCost F m 10 ≤ mCost F m2 10 := by
  obtain ⟨u, v, p, ⟨s1, s2, s3, s4, s5, s6, s7, s8⟩, f1, f2⟩ := hM
  have val : mVal lim F m := by
    refine ⟨fun r hr => ?_, fun r q hr hq hne he => ?_⟩
    · rcases f1 r hr with x | ⟨j, a, b, c, d, e⟩
      · exact Or.inl x
      · refine Or.inr ⟨j - 1, by omega, by omega, ?_⟩
        have w := hC_v hok h (r := r) (j := j - 1) hr (by omega)
        rw [show j - 1 + 1 = j by omega] at w
        by_cases k : F r (j - 1) ≤ lim
        · exact k
        · exact absurd (w.2 k) e
    · rcases f1 r hr with x | ⟨j, a, b, c, d, e⟩
      · exact absurd x hne
      · rcases f1 q hq with y | ⟨l, a2, b2, c2, d2, e2⟩
        · omega
        · have : j = l := by omega
          subst this
          omega
  refine ⟨val, fun m2 hm2 => ?_⟩
  -- the column of each row
  have hσ : ∃ σ : Nat → Nat, ∀ r, r < 10 → 1 ≤ σ r ∧ σ r ≤ 20 ∧ p (σ r) = ((r + 1 : Nat) : Int) := by
    have hx : ∀ r : Nat, ∃ j : Nat, r < 10 → 1 ≤ j ∧ j ≤ 20 ∧ p j = ((r + 1 : Nat) : Int) := fun r => by
      by_cases hr : r < 10
      · obtain ⟨j, a, b, c⟩ := s5 (r + 1) (by omega) (by omega)
        exact ⟨j, fun _ => ⟨a, b, c⟩⟩
      · exact ⟨0, fun k => absurd k hr⟩
    exact ⟨fun r => Classical.choose (hx r), fun r hr => Classical.choose_spec (hx r) hr⟩
  obtain ⟨σ, hσ⟩ := hσ
  rw [hC_cost h val 10 (Nat.le_refl 10), hC_cost h hm2 10 (Nat.le_refl 10)]
  have tight : ∀ r, r < 10 → u (r + 1) + v (σ r) = C (r + 1) (σ r) := fun r hr => by
    obtain ⟨a, b, c⟩ := hσ r hr
    rcases s2 (σ r) a b with x | ⟨x, y, z⟩
    · omega
    · rw [c] at z
      exact z
  have cls : mS (fun r => if m r = -1 then 0 else C (r + 1) ((m r).toNat + 1)) 10 = mS (fun r => u (r + 1) + v (σ r)) 10 := mS_cg 10 (Nat.le_refl 10) (fun r _ hr => by
    show (if m r = -1 then 0 else C (r + 1) ((m r).toNat + 1)) = u (r + 1) + v (σ r)
    rw [tight r hr]
    obtain ⟨a, b, c⟩ := hσ r hr
    rcases f1 r hr with x | ⟨j, a2, b2, c2, d2, e2⟩
    · rw [if_pos x]
      by_cases k : σ r ≤ 10
      · by_cases k2 : C (r + 1) (σ r) = 0
        · exact k2.symm
        · have := f2 r (σ r) hr a k c k2
          omega
      · exact (h.2.1 (r + 1) (σ r) (by omega) (by omega) (by omega)).symm
    · have ej : j = σ r := s4 j (σ r) a2 (by omega) a b (by omega) (by omega)
      rw [if_neg (by omega), show (m r).toNat + 1 = j by omega, ej])
  have hτ : ∀ r, r < 10 → 1 ≤ (if m2 r = -1 then 11 + r else (m2 r).toNat + 1) ∧ (if m2 r = -1 then 11 + r else (m2 r).toNat + 1) ≤ 20 := fun r hr => by
    rcases hm2.1 r hr with x | ⟨j, a, b, c⟩
    · rw [if_pos x]
      omega
    · rw [if_neg (by omega)]
      omega
  have oth : mS (fun r => u (r + 1) + v (if m2 r = -1 then 11 + r else (m2 r).toNat + 1)) 10 ≤ mS (fun r => if m2 r = -1 then 0 else C (r + 1) ((m2 r).toNat + 1)) 10 := mS_le 10 (Nat.le_refl 10) (fun r _ hr => by
    show u (r + 1) + v (if m2 r = -1 then 11 + r else (m2 r).toNat + 1) ≤ (if m2 r = -1 then 0 else C (r + 1) ((m2 r).toNat + 1))
    have t := hτ r hr
    by_cases x : m2 r = -1
    · rw [if_pos x] at t ⊢
      rw [if_pos x]
      have := s1 (r + 1) (11 + r) (by omega) (by omega) (by omega) (by omega)
      have := h.2.1 (r + 1) (11 + r) (by omega) (by omega) (by omega)
      omega
    · rw [if_neg x] at t ⊢
      rw [if_neg x]
      exact s1 (r + 1) _ (by omega) (by omega) t.1 t.2)
  rw [cls]
  refine Int.le_trans ?_ oth
  rw [mS_add (f := fun r => u (r + 1)) (g := fun r => v (σ r)), mS_add (f := fun r => u (r + 1)) (g := fun r => v (if m2 r = -1 then 11 + r else (m2 r).toNat + 1))]
  have a1 := hV_eq (τ := σ) 10 v (Nat.le_refl 10) (fun r _ hr => ⟨(hσ r hr).1, (hσ r hr).2.1⟩) (fun r q _ hr _ hq e => by
    have x := (hσ r hr).2.2
    have y := (hσ q hq).2.2
    rw [e] at x
    omega) (fun j a b hj => by
    refine (s3 j a b).2 ?_
    rcases s2 j a b with x | ⟨x, y, z⟩
    · exact x
    · exfalso
      have w := hσ ((p j).toNat - 1) (by omega)
      refine hj ((p j).toNat - 1) (by omega) (by omega) ?_
      exact s4 _ _ w.1 w.2.1 a b (by omega) (by omega))
  have a2 := hV_ge (τ := fun r => if m2 r = -1 then 11 + r else (m2 r).toNat + 1) 10 v (Nat.le_refl 10) (fun r _ hr => hτ r hr) (fun r q _ hr _ hq e => by
    have e2 : (if m2 r = -1 then 11 + r else (m2 r).toNat + 1) = (if m2 q = -1 then 11 + q else (m2 q).toNat + 1) := e
    rcases hm2.1 r hr with x | ⟨j, a, b, c⟩ <;> rcases hm2.1 q hq with y | ⟨l, a3, b3, c3⟩
    · rw [if_pos x, if_pos y] at e2
      omega
    · rw [if_pos x, if_neg (by omega)] at e2
      omega
    · rw [if_neg (by omega), if_pos y] at e2
      omega
    · rw [if_neg (by omega), if_neg (by omega)] at e2
      exact hm2.2 r q hr hq (by omega) (by omega)) (fun j a b => (s3 j a b).1)
  have a3 : mS (fun r => v ((fun r => if m2 r = -1 then 11 + r else (m2 r).toNat + 1) r)) 10 = mS (fun r => v (if m2 r = -1 then 11 + r else (m2 r).toNat + 1)) 10 := rfl
  omega
theorem hM_R {lim : Int} {F C : Nat → Nat → Int} {m mt : Nat → Int} (hok : mOk lim F) (h : hC lim F C) (hM : hM C m) (hR : mR lim F mt) : ∀ r, r < 10 → m r = mt r := by
  obtain ⟨a, b⟩ := hM_best hok h hM
  refine mR_uniq hok hR a (b mt ?_)
  obtain ⟨σ, h0, _, h1⟩ := hR
  exact mR_val h0 h1
