set_option maxHeartbeats 4000000
set_option maxRecDepth 100000
/-! the chest matched: the reference's table and its reading -/
theorem mBit : ∀ s, s < 1024 → ∀ j, j < 10 → (jand (jshr (s : Nat) (j : Nat)) 1 = if s.testBit j then 1 else 0) ∧ jor (s : Nat) (jshl 1 (j : Nat)) = ((s ||| 1 <<< j : Nat) : Int) ∧ (s ||| 1 <<< j) < 1024 := by decide +kernel
theorem mTb (s j k : Nat) : (s ||| 1 <<< j).testBit k = (s.testBit k || decide (k = j)) := by
  rw [Nat.testBit_or, Nat.one_shiftLeft, Nat.testBit_two_pow]
  congr 1
  by_cases h : j = k
  · simp [h]
  · simp [h, show ¬ k = j from fun e => h e.symm]
def mMx (f : Nat → Int) (c : Nat → Bool) (v : Int) : Nat → Int
  | 0 => v
  | j + 1 => if c j = true ∧ mMx f c v j < f j then f j else mMx f c v j
def mC (lim : Int) (F : Nat → Nat → Int) (i s j : Nat) : Bool := decide (F i j ≤ lim) && !s.testBit j
def mB (lim : Int) (F : Nat → Nat → Int) : Nat → Nat → Int
  | 0, _ => 0
  | n + 1, s => mMx (fun j => mB lim F n (s ||| 1 <<< j) + 100000 - F (9 - n) j) (mC lim F (9 - n) s) (mB lim F n s) 10
theorem mMx_s (f : Nat → Int) (c : Nat → Bool) (v : Int) : ∀ n, v ≤ mMx f c v n ∧ (∀ j, j < n → c j = true → f j ≤ mMx f c v n) ∧ (mMx f c v n = v ∨ ∃ j, j < n ∧ c j = true ∧ mMx f c v n = f j)
  | 0 => ⟨Int.le_refl v, fun j hj => absurd hj (Nat.not_lt_zero j), Or.inl rfl⟩
  | n + 1 => by
    obtain ⟨h1, h2, h3⟩ := mMx_s f c v n
    unfold mMx
    by_cases h : c n = true ∧ mMx f c v n < f n
    · rw [if_pos h]
      refine ⟨by omega, fun j hj hc => ?_, Or.inr ⟨n, by omega, h.1, rfl⟩⟩
      by_cases e : j = n
      · rw [e]
        exact Int.le_refl _
      · have := h2 j (by omega) hc
        omega
    · rw [if_neg h]
      refine ⟨h1, fun j hj hc => ?_, ?_⟩
      · by_cases e : j = n
        · subst e
          by_cases k : mMx f c v j < f j
          · exact absurd ⟨hc, k⟩ h
          · omega
        · exact h2 j (by omega) hc
      · rcases h3 with h3 | ⟨j, a, b, d⟩
        · exact Or.inl h3
        · exact Or.inr ⟨j, by omega, b, d⟩
/-- the chosen ones' cost is told: at most 500 -/
def mOk (lim : Int) (F : Nat → Nat → Int) : Prop := (0 ≤ lim ∧ lim ≤ 500) ∧ ∀ i j, i < 10 → j < 10 → 0 ≤ F i j ∧ F i j ≤ 100000000
theorem mC_f {lim : Int} {F : Nat → Nat → Int} {i s j : Nat} (h : mC lim F i s j = true) : F i j ≤ lim ∧ s.testBit j = false := by
  unfold mC at h
  rw [Bool.and_eq_true, decide_eq_true_eq, Bool.not_eq_true'] at h
  exact h
theorem mB_b {lim : Int} {F : Nat → Nat → Int} (h : mOk lim F) : ∀ n, n ≤ 10 → ∀ s, 0 ≤ mB lim F n s ∧ mB lim F n s ≤ 100000 * (n : Nat)
  | 0, _, s => ⟨Int.le_refl 0, Int.le_refl 0⟩
  | n + 1, hn, s => by
    have ih := mB_b h n (by omega)
    obtain ⟨h1, h2, h3⟩ := mMx_s (fun j => mB lim F n (s ||| 1 <<< j) + 100000 - F (9 - n) j) (mC lim F (9 - n) s) (mB lim F n s) 10
    have a := ih s
    show 0 ≤ mMx _ _ _ 10 ∧ mMx _ _ _ 10 ≤ _
    rcases h3 with h3 | ⟨j, hj, hc, h3⟩
    · rw [h3]
      omega
    · have b := ih (s ||| 1 <<< j)
      have c := (mC_f hc).1
      have d := h.2 (9 - n) j (by omega) hj
      have e := h.1
      rw [h3]
      show 0 ≤ mB lim F n (s ||| 1 <<< j) + 100000 - F (9 - n) j ∧ mB lim F n (s ||| 1 <<< j) + 100000 - F (9 - n) j ≤ _
      omega
theorem w_canPair {lim : Int} {ft : Nat → Int} {F : Nat → Nat → Int} (hF : ∀ i j, i < 10 → j < 10 → ft (10 * i + j) = F i j) {i j s : Nat} (hi : i < 10) (hj : j < 10) (hs : s < 1024) : iM_canPair i j s lim ft = some (if mC lim F i s j = true then 1 else 0) := by
  have ex : ((10 : Int) * i + j).toNat = 10 * i + j := by omega
  unfold iM_canPair mC
  rw [gd, if_pos (jr_iff.mpr (by omega)), gd, if_pos (jr_iff.mpr (by omega)), gd, if_pos (jb_iff.mpr (by omega)), ex, hF i j hi hj, (mBit s hs j hj).1]
  by_cases h : lim < F i j
  · rw [if_pos h, decide_eq_false (by omega), Bool.false_and, if_neg (by decide)]
  · rw [if_neg h, decide_eq_true (by omega), Bool.true_and]
    cases s.testBit j with
    | true => rfl
    | false => rfl
theorem w_paired {lim : Int} {ft best : Nat → Int} {F : Nat → Nat → Int} (hok : mOk lim F) (hF : ∀ i j, i < 10 → j < 10 → ft (10 * i + j) = F i j) {i j s : Nat} (hi : i < 10) (hj : j < 10) (hs : s < 1024) (hb : ∀ s, s < 1024 → best (1024 * (i + 1) + s) = mB lim F (9 - i) s) : iM_paired i j s best ft = some (mB lim F (9 - i) (s ||| 1 <<< j) + 100000 - F i j) := by
  obtain ⟨_, e2, e3⟩ := mBit s hs j hj
  have ex : ((10 : Int) * i + j).toNat = 10 * i + j := by omega
  have ey : ((1024 : Int) * ((i : Int) + (1 : Int)) + (((s ||| 1 <<< j) : Nat) : Int)).toNat = 1024 * (i + 1) + (s ||| 1 <<< j) := by omega
  have b := mB_b hok (9 - i) (by omega) (s ||| 1 <<< j)
  have c := hok.2 i j hi hj
  unfold iM_paired
  rw [e2, ex, ey, hb _ e3, hF i j hi hj]
  rw [gd, if_pos (jr_iff.mpr (by omega)), gd, if_pos (jr_iff.mpr (by omega)), gd, if_pos (jr_iff.mpr (by omega)), gd, if_pos (jb_iff.mpr (by omega)), gd, if_pos (jr_iff.mpr (by omega)), gd, if_pos (jr_iff.mpr (by omega)), gd, if_pos (jb_iff.mpr (by omega)), gd, if_pos (jr_iff.mpr (by omega)), gd, if_pos (jr_iff.mpr (by omega))]
/-- the fits of the reference -/
def mF (g lo : Int) (P W S : Nat → Int) (i j : Nat) : Int := if 0 < S i ∧ 0 < S (10 + j) then fE g lo P W i (10 + j) (S i).toNat (S (10 + j)).toNat else 100000000
theorem mF_ok {g lo lim : Int} {P W S : Nat → Int} (h : fOk g lo P W S) (hl : 0 ≤ lim ∧ lim ≤ 500) : mOk lim (mF g lo P W S) := by
  refine ⟨hl, fun i j hi hj => ?_⟩
  have a := h.2.2.1 i (by omega)
  have b := h.2.2.1 (10 + j) (by omega)
  have c := fE_b h (a := i) (b := 10 + j) (by omega) (by omega) (S i).toNat (by omega) (S (10 + j)).toNat (by omega)
  unfold mF
  split <;> omega
def mG (lim : Int) (F : Nat → Nat → Int) (i s j : Nat) : Prop := mC lim F i s j = true ∧ mB lim F (9 - i) (s ||| 1 <<< j) + 100000 - F i j = mB lim F (10 - i) s
/-- what the reference reads out of its table -/
def mR (lim : Int) (F : Nat → Nat → Int) (mt : Nat → Int) : Prop := ∃ σ : Nat → Nat, σ 0 = 0 ∧ (∀ i, i ≤ 10 → σ i < 1024) ∧ ∀ i, i < 10 → (mt i = -1 ∧ (∀ j, j < 10 → ¬ mG lim F i (σ i) j) ∧ σ (i + 1) = σ i) ∨ ∃ j : Nat, j < 10 ∧ mt i = j ∧ mG lim F i (σ i) j ∧ (∀ k, k < j → ¬ mG lim F i (σ i) k) ∧ σ (i + 1) = σ i ||| 1 <<< j
/-- the first part: the fits -/
theorem w_mfits {N : Nat} (hN : 5000 ≤ N) {g lo lim : Int} {P W S be co ft mt : Nat → Int} {Q : R_iM_matches → Prop} (h : fOk g lo P W S) (hk : ∀ co2 ft2, (∀ i j, i < 10 → j < 10 → ft2 (10 * i + j) = mF g lo P W S i j) → wp (iM_matches_b72 N g lim lo P W S be co2 ft2 mt) Q) : wp (iM_matches N g lim lo be co P W S ft mt) Q := by
  unfold iM_matches iM_matches_b2
  refine wp_zlp3 (fun (k : Nat) (x1 : Int) (c f : Nat → Int) => ∃ i : Nat, x1 = i ∧ i + k = 10 ∧ ∀ i2 j2, i2 < i → j2 < 10 → f (10 * i2 + j2) = mF g lo P W S i2 j2) ?_ N 10 0 co ft (by omega) ⟨0, rfl, rfl, fun i2 j2 hi => by omega⟩
  intro self k x1 c f ⟨i, e1, e2, e3⟩ ih
  subst e1
  unfold iM_matches_b2_F
  cases k with
  | zero =>
    rw [if_pos (by omega)]
    exact hk c f (fun i j hi hj => e3 i j (by omega) hj)
  | succ k =>
    rw [if_neg (by omega)]
    unfold iM_matches_b10
    refine wp_zlp3 (fun (k : Nat) (x2 : Int) (c f : Nat → Int) => ∃ j : Nat, x2 = j ∧ j + k = 10 ∧ (∀ i2 j2, i2 < i → j2 < 10 → f (10 * i2 + j2) = mF g lo P W S i2 j2) ∧ ∀ j2, j2 < j → f (10 * i + j2) = mF g lo P W S i j2) ?_ N 10 0 c f (by omega) ⟨0, rfl, rfl, e3, fun j2 hj => by omega⟩
    intro self2 k2 x2 c2 f2 ⟨j, f1, f2', f3, f4⟩ ih2
    subst f1
    unfold iM_matches_b10_F
    cases k2 with
    | zero =>
      rw [if_pos (by omega)]
      show wp (iM_matches_b66 N g lim lo P W S self _ i be c2 f2 mt) Q
      unfold iM_matches_b66
      rw [wp_gd]
      refine ⟨jr_iff.mpr (by omega), ih k _ _ _ (Nat.lt_succ_self k) ⟨i + 1, by omega, by omega, fun i2 j2 hi hj => ?_⟩⟩
      by_cases hi2 : i2 = i
      · rw [hi2]
        exact f4 j2 (by omega)
      · exact f3 i2 j2 (by omega) hj
    | succ k2 =>
      have fin : ∀ (c3 : Nat → Int) (val s1 : Int), val = mF g lo P W S i j → s1 = ((10 * i + j : Nat) : Int) → wp (iM_matches_b59 N g lim lo P W S self2 (fun v_cost_k1 v_fits_k2 => iM_matches_b66 N g lim lo P W S self (fun v_cost_k3 v_fits_k4 => iM_matches_b72 N g lim lo P W S be v_cost_k3 v_fits_k4 mt) i be v_cost_k1 v_fits_k2 mt) i j s1 val be c3 f2 mt) Q := fun c3 val s1 hv hs => by
        subst hs
        unfold iM_matches_b59
        rw [wp_gd, wp_gd]
        have ex : ((10 * i + j : Nat) : Int).toNat = 10 * i + j := rfl
        rw [ex]
        refine ⟨jb_iff.mpr (by omega), jr_iff.mpr (by omega), ih2 k2 _ _ _ (Nat.lt_succ_self k2) ⟨j + 1, by omega, by omega, fun i2 j2 hi hj => ?_, fun j2 hj => ?_⟩⟩
        · rw [va_up_ne _ _ (by omega)]
          exact f3 i2 j2 hi hj
        · by_cases hj2 : j2 = j
          · rw [hj2, va_up_self, hv]
          · rw [va_up_ne _ _ (by omega)]
            exact f4 j2 (by omega)
      rw [if_neg (by omega), wp_bd1, w_M_isThere (by omega)]
      have hno : ¬ (0 < S i ∧ 0 < S (10 + j)) → wp (iM_matches_b57 N g lim lo P W S self2 (fun v_cost_k1 v_fits_k2 => iM_matches_b66 N g lim lo P W S self (fun v_cost_k3 v_fits_k4 => iM_matches_b72 N g lim lo P W S be v_cost_k3 v_fits_k4 mt) i be v_cost_k1 v_fits_k2 mt) i j (10 * i + j) be c2 f2 mt) Q := fun hn => by
        unfold iM_matches_b57
        refine fin _ _ _ ?_ (by omega)
        unfold mF
        rw [if_neg hn]
      refine ⟨fun h1 => ?_, fun h1 => ?_⟩
      · rw [if_neg (by decide), wp_gd, wp_bd1, show (10 : Int) + j = ((10 + j : Nat) : Int) by omega, w_M_isThere (by omega)]
        refine ⟨jr_iff.mpr (by omega), fun h2 => ?_, fun h2 => ?_⟩
        · rw [if_neg (by decide), wp_bd2]
          refine wp_mono (w_M_fitOf hN h (a := i) (b := 10 + j) (by omega) (by omega)) (fun r hr => ?_)
          rw [wp_gd, wp_gd]
          refine ⟨jr_iff.mpr (by omega), jr_iff.mpr (by omega), fin _ _ _ ?_ (by omega)⟩
          rw [hr]
          unfold mF
          rw [if_pos ⟨h1, h2⟩]
        · rw [if_pos rfl, wp_gd, wp_gd]
          exact ⟨jr_iff.mpr (by omega), jr_iff.mpr (by omega), hno (fun q => h2 q.2)⟩
      · rw [if_pos rfl, wp_gd, wp_gd]
        exact ⟨jr_iff.mpr (by omega), jr_iff.mpr (by omega), hno (fun q => h1 q.1)⟩
/-- the second part: the table, and what is read out of it -/
theorem w_mtable {N : Nat} (hN : 5000 ≤ N) {g lo lim : Int} {P W S be co ft mt : Nat → Int} {F : Nat → Nat → Int} (hok : mOk lim F) (hF : ∀ i j, i < 10 → j < 10 → ft (10 * i + j) = F i j) : wp (iM_matches_b72 N g lim lo P W S be co ft mt) (fun r => r.2.2.1 = ft ∧ mR lim F r.2.2.2) := by
  unfold iM_matches_b72 iM_matches_b74
  refine wp_zlp2 (fun (k : Nat) (x1 : Int) (b : Nat → Int) => ∃ s : Nat, x1 = s ∧ s + k = 1024 ∧ ∀ s2, s2 < s → b (1024 * 10 + s2) = 0) ?_ N 1024 0 be (by omega) ⟨0, rfl, rfl, fun s2 h => by omega⟩
  intro self k x1 b ⟨s, e1, e2, e3⟩ ih
  subst e1
  unfold iM_matches_b74_F
  cases k with
  | succ k =>
    have ex : ((10240 : Int) + s).toNat = 1024 * 10 + s := by omega
    rw [if_neg (by omega), wp_gd, wp_gd, wp_gd, ex]
    refine ⟨jr_iff.mpr (by omega), jb_iff.mpr (by omega), jr_iff.mpr (by omega), ih k _ _ (Nat.lt_succ_self k) ⟨s + 1, by omega, by omega, fun s2 hs2 => ?_⟩⟩
    by_cases e : s2 = s
    · rw [e, va_up_self]
    · rw [va_up_ne _ _ (by omega)]
      exact e3 s2 (by omega)
  | zero =>
    rw [if_pos (by omega)]
    show wp (iM_matches_b98 N g lim lo P W S b co ft mt) _
    unfold iM_matches_b98 iM_matches_b101
    refine wp_zlp2 (fun (k : Nat) (x1 : Int) (b : Nat → Int) => x1 = (k : Int) - 1 ∧ k ≤ 10 ∧ ∀ i s, k ≤ i → i ≤ 10 → s < 1024 → b (1024 * i + s) = mB lim F (10 - i) s) ?_ N 10 9 b (by omega) ⟨by omega, Nat.le_refl 10, fun i s h1 h2 h3 => ?_⟩
    · intro self2 k x1 b ⟨f1, f2, f3⟩ ih2
      subst f1
      unfold iM_matches_b101_F
      cases k with
      | zero =>
        rw [if_pos (by omega)]
        show wp (iM_matches_b202 N g lim lo P W S b co ft mt) _
        unfold iM_matches_b202 iM_matches_b206
        refine wp_zlp3 (fun (k : Nat) (x1 x2 : Int) (m : Nat → Int) => ∃ (i : Nat) (σ : Nat → Nat), x2 = i ∧ i + k = 10 ∧ x1 = σ i ∧ σ 0 = 0 ∧ (∀ q, q ≤ i → σ q < 1024) ∧ ∀ q, q < i → (m q = -1 ∧ (∀ j, j < 10 → ¬ mG lim F q (σ q) j) ∧ σ (q + 1) = σ q) ∨ ∃ j : Nat, j < 10 ∧ m q = j ∧ mG lim F q (σ q) j ∧ (∀ k, k < j → ¬ mG lim F q (σ q) k) ∧ σ (q + 1) = σ q ||| 1 <<< j) ?_ N 10 0 0 mt (by omega) ⟨0, fun _ => 0, rfl, rfl, rfl, rfl, fun q _ => Nat.zero_lt_succ 1023, fun q h => by omega⟩
        intro self3 k x1 x2 m ⟨i, σ, g1, g2, g3, g4, g5, g6⟩ ih3
        subst g1
        subst g3
        have ei : (i : Int).toNat = i := rfl
        unfold iM_matches_b206_F
        cases k with
        | zero =>
          rw [if_pos (by omega), wp_some]
          have : i = 10 := by omega
          subst this
          exact ⟨rfl, σ, g4, fun q hq => g5 q hq, g6⟩
        | succ k =>
          have hs := g5 i (Nat.le_refl i)
          rw [if_neg (by omega), wp_gd, ei]
          refine ⟨jb_iff.mpr (by omega), ?_⟩
          unfold iM_matches_b222
          refine wp_zlp2 (fun (k : Nat) (x3 : Int) (m2 : Nat → Int) => x3 = (k : Int) - 1 ∧ k ≤ 10 ∧ (∀ q, q ≠ i → m2 q = m q) ∧ ((m2 i = -1 ∧ ∀ j, k ≤ j → j < 10 → ¬ mG lim F i (σ i) j) ∨ ∃ j : Nat, k ≤ j ∧ j < 10 ∧ m2 i = j ∧ mG lim F i (σ i) j ∧ ∀ l, k ≤ l → l < j → ¬ mG lim F i (σ i) l)) ?_ N 10 9 _ (by omega) ⟨by omega, Nat.le_refl 10, fun q hq => va_up_ne _ _ hq, Or.inl ⟨va_up_self _ _ _, fun j h1 h2 => by omega⟩⟩
          intro self4 k4 x3 m2 ⟨h1, h2, h3, h4⟩ ih4
          subst h1
          unfold iM_matches_b222_F
          cases k4 with
          | zero =>
            rw [if_pos (by omega)]
            show wp (iM_matches_b271 N g lim lo P W S self3 (σ i) i b co ft m2) _
            unfold iM_matches_b271
            rw [wp_gd, wp_ite, ei]
            refine ⟨jb_iff.mpr (by omega), fun hm => ?_, fun hm => ?_⟩
            · rw [wp_gd]
              refine ⟨jr_iff.mpr (by omega), ih3 k _ _ _ (Nat.lt_succ_self k) ⟨i + 1, va_up σ (i + 1) (σ i), by omega, by omega, by rw [va_up_self], by rw [va_up_ne _ _ (by omega)]; exact g4, fun q hq => ?_, fun q hq => ?_⟩⟩
              · by_cases e : q = i + 1
                · rw [e, va_up_self]
                  exact hs
                · rw [va_up_ne _ _ e]
                  exact g5 q (by omega)
              · by_cases e : q = i
                · subst e
                  rw [va_up_self, va_up_ne _ _ (by omega)]
                  rcases h4 with ⟨a1, a2⟩ | ⟨j, a1, a2, a3, a4, a5⟩
                  · exact Or.inl ⟨a1, fun j hj => a2 j (by omega) hj, rfl⟩
                  · omega
                · rw [va_up_ne _ _ (by omega), va_up_ne _ _ (by omega), h3 q e]
                  exact g6 q (by omega)
            · rcases h4 with ⟨a1, a2⟩ | ⟨j, a1, a2, a3, a4, a5⟩
              · exact absurd a1 hm
              · obtain ⟨_, b2, b3⟩ := mBit (σ i) hs j a2
                rw [wp_gd, a3, b2]
                refine ⟨jr_iff.mpr (by omega), ih3 k _ _ _ (Nat.lt_succ_self k) ⟨i + 1, va_up σ (i + 1) (σ i ||| 1 <<< j), by omega, by omega, by rw [va_up_self], by rw [va_up_ne _ _ (by omega)]; exact g4, fun q hq => ?_, fun q hq => ?_⟩⟩
                · by_cases e : q = i + 1
                  · rw [e, va_up_self]
                    exact b3
                  · rw [va_up_ne _ _ e]
                    exact g5 q (by omega)
                · by_cases e : q = i
                  · subst e
                    rw [va_up_self, va_up_ne _ _ (by omega)]
                    exact Or.inr ⟨j, a2, a3, a4, fun l hl => a5 l (by omega) hl, rfl⟩
                  · rw [va_up_ne _ _ (by omega), va_up_ne _ _ (by omega), h3 q e]
                    exact g6 q (by omega)
          | succ k4 =>
            have ek : ((k4 + 1 : Nat) : Int) - 1 = (k4 : Int) := by omega
            have hb2 : ∀ s, s < 1024 → b (1024 * (i + 1) + s) = mB lim F (9 - i) s := fun s hs => by
              rw [f3 (i + 1) s (by omega) (by omega) hs, show 10 - (i + 1) = 9 - i by omega]
            rw [ek, if_neg (by omega), wp_bd1, w_canPair hF (by omega) (by omega) hs, wp_some]
            have next : ∀ m3 : Nat → Int, (∀ q, q ≠ i → m3 q = m q) → ((m3 i = -1 ∧ ∀ j, k4 ≤ j → j < 10 → ¬ mG lim F i (σ i) j) ∨ ∃ j : Nat, k4 ≤ j ∧ j < 10 ∧ m3 i = j ∧ mG lim F i (σ i) j ∧ ∀ l, k4 ≤ l → l < j → ¬ mG lim F i (σ i) l) → wp (self4 ((k4 : Int) + (-1)) m3) (fun r => r.2.2.1 = ft ∧ mR lim F r.2.2.2) := fun m3 c1 c2 => ih4 k4 _ _ (Nat.lt_succ_self k4) ⟨by omega, by omega, c1, c2⟩
            have skip : ¬ mG lim F i (σ i) k4 → wp (self4 ((k4 : Int) + (-1)) m2) (fun r => r.2.2.1 = ft ∧ mR lim F r.2.2.2) := fun hn => next m2 h3 (by
              rcases h4 with ⟨a1, a2⟩ | ⟨j, a1, a2, a3, a4, a5⟩
              · refine Or.inl ⟨a1, fun j hj hj2 => ?_⟩
                by_cases e : j = k4
                · rw [e]
                  exact hn
                · exact a2 j (by omega) hj2
              · refine Or.inr ⟨j, by omega, a2, a3, a4, fun l hl hl2 => ?_⟩
                by_cases e : l = k4
                · rw [e]
                  exact hn
                · exact a5 l (by omega) hl2)
            by_cases hc : mC lim F i (σ i) k4 = true
            · rw [if_pos hc, if_neg (by decide), wp_bd1, w_paired hok hF (by omega) (by omega) hs hb2, wp_some]
              have ex : ((1024 : Int) * i + (σ i : Nat)).toNat = 1024 * i + σ i := by omega
              simp only [wp_gd, wp_ite, jb_iff, jr_iff, ex, f3 i (σ i) (by omega) (by omega) hs]
              refine ⟨by omega, by omega, by omega, fun heq => ⟨by omega, by omega, next _ (fun q hq => ?_) (Or.inr ⟨k4, Nat.le_refl k4, by omega, ?_, ⟨hc, heq⟩, fun l h1 h2 => by omega⟩)⟩, fun hne => ⟨by omega, skip (fun q => hne q.2)⟩⟩
              · rw [ei, va_up_ne _ _ hq]
                exact h3 q hq
              · rw [ei, va_up_self]
            · rw [if_neg hc, if_pos rfl, wp_gd]
              exact ⟨jr_iff.mpr (by omega), skip (fun q => hc q.1)⟩
      | succ k =>
        have ek : ((k + 1 : Nat) : Int) - 1 = (k : Int) := by omega
        rw [ek, if_neg (by omega)]
        unfold iM_matches_b107
        refine wp_zlp2 (fun (q : Nat) (x2 : Int) (b : Nat → Int) => ∃ s : Nat, x2 = s ∧ s + q = 1024 ∧ (∀ i s, k + 1 ≤ i → i ≤ 10 → s < 1024 → b (1024 * i + s) = mB lim F (10 - i) s) ∧ ∀ s2, s2 < s → b (1024 * k + s2) = mB lim F (10 - k) s2) ?_ N 1024 0 b (by omega) ⟨0, rfl, rfl, f3, fun s2 h => by omega⟩
        intro self3 q x2 b ⟨s, g1, g2, g3, g4⟩ ih3
        subst g1
        unfold iM_matches_b107_F
        cases q with
        | zero =>
          rw [if_pos (by omega)]
          show wp (iM_matches_b196 N g lim lo P W S self2 _ k b co ft mt) _
          unfold iM_matches_b196
          rw [wp_gd]
          refine ⟨jr_iff.mpr (by omega), ih2 k _ _ (Nat.lt_succ_self k) ⟨by omega, by omega, fun i s h1 h2 h3 => ?_⟩⟩
          by_cases e : i = k
          · rw [e]
            exact g4 s (by omega)
          · exact g3 i s (by omega) h2 h3
        | succ q =>
          have ex : ((1024 : Int) * ((k : Int) + 1) + (s : Int)).toNat = 1024 * (k + 1) + s := by omega
          have ey : ((1024 : Int) * (k : Int) + (s : Int)).toNat = 1024 * k + s := by omega
          have hb2 : ∀ s, s < 1024 → b (1024 * (k + 1) + s) = mB lim F (9 - k) s := fun s hs => by
            rw [g3 (k + 1) s (by omega) (by omega) hs, show 10 - (k + 1) = 9 - k by omega]
          have hBk : mB lim F (10 - k) s = mMx (fun j => mB lim F (9 - k) (s ||| 1 <<< j) + 100000 - F k j) (mC lim F k s) (mB lim F (9 - k) s) 10 := by
            rw [show 10 - k = (9 - k) + 1 by omega]
            show mMx _ _ _ 10 = _
            rw [show 9 - (9 - k) = k by omega]
          rw [if_neg (by omega), wp_gd, wp_gd, wp_gd, wp_gd, ex, hb2 s (by omega)]
          refine ⟨jr_iff.mpr (by omega), jr_iff.mpr (by omega), jr_iff.mpr (by omega), jb_iff.mpr (by omega), ?_⟩
          unfold iM_matches_b132
          refine wp_zlp2 (fun (q : Nat) (x3 x4 : Int) => ∃ j : Nat, x4 = j ∧ j + q = 10 ∧ x3 = mMx (fun j => mB lim F (9 - k) (s ||| 1 <<< j) + 100000 - F k j) (mC lim F k s) (mB lim F (9 - k) s) j) ?_ N 10 _ 0 (by omega) ⟨0, rfl, rfl, rfl⟩
          intro self4 q4 x3 x4 ⟨j, h1, h2, h3⟩ ih4
          subst h1
          unfold iM_matches_b132_F
          cases q4 with
          | zero =>
            have hj : j = 10 := by omega
            subst hj
            rw [if_pos (by omega)]
            show wp (iM_matches_b177 N g lim lo P W S self3 _ k s x3 b co ft mt) _
            unfold iM_matches_b177
            rw [wp_gd, wp_gd, wp_gd, wp_gd, ey]
            refine ⟨jr_iff.mpr (by omega), jr_iff.mpr (by omega), jb_iff.mpr (by omega), jr_iff.mpr (by omega), ih3 q _ _ (Nat.lt_succ_self q) ⟨s + 1, by omega, by omega, fun i s2 c1 c2 c3 => ?_, fun s2 hs2 => ?_⟩⟩
            · rw [va_up_ne _ _ (by omega)]
              exact g3 i s2 c1 c2 c3
            · by_cases e : s2 = s
              · rw [e, va_up_self, h3, hBk]
              · rw [va_up_ne _ _ (by omega)]
                exact g4 s2 (by omega)
          | succ q4 =>
            have hm : mMx (fun j => mB lim F (9 - k) (s ||| 1 <<< j) + 100000 - F k j) (mC lim F k s) (mB lim F (9 - k) s) (j + 1) = if mC lim F k s j = true ∧ x3 < mB lim F (9 - k) (s ||| 1 <<< j) + 100000 - F k j then mB lim F (9 - k) (s ||| 1 <<< j) + 100000 - F k j else x3 := by
              rw [h3]
              rfl
            rw [if_neg (by omega), wp_bd1, w_canPair hF (by omega) (by omega) (by omega), wp_some]
            by_cases hc : mC lim F k s j = true
            · rw [if_pos hc, if_neg (by decide), wp_bd1, w_paired hok hF (by omega) (by omega) (by omega) hb2, wp_some, wp_ite]
              refine ⟨fun hle => ?_, fun hgt => ?_⟩
              · rw [wp_gd]
                refine ⟨jr_iff.mpr (by omega), ih4 q4 _ _ (Nat.lt_succ_self q4) ⟨j + 1, by omega, by omega, ?_⟩⟩
                rw [hm, if_neg (fun q => by have := q.2; omega)]
              · rw [wp_bd1, wp_some, wp_gd]
                refine ⟨jr_iff.mpr (by omega), ih4 q4 _ _ (Nat.lt_succ_self q4) ⟨j + 1, by omega, by omega, ?_⟩⟩
                rw [hm, if_pos ⟨hc, by omega⟩]
            · rw [if_neg hc, if_pos rfl, wp_gd]
              refine ⟨jr_iff.mpr (by omega), ih4 q4 _ _ (Nat.lt_succ_self q4) ⟨j + 1, by omega, by omega, ?_⟩⟩
              rw [hm, if_neg (fun q => hc q.1)]
    · have : i = 10 := by omega
      subst this
      rw [e3 s (by omega)]
      rfl
