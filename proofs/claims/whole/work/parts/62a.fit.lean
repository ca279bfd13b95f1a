set_option maxHeartbeats 4000000
set_option maxRecDepth 100000
/-! halves, FIT: class and reference -/
def fRow (lo : Int) (c : Nat → Bool) (e : Nat → Int) (prev : Nat → Int) : Nat → Int
  | 0 => prev 0 + lo
  | j + 1 => if c j = true then jmin (jmin (prev (j + 1)) (fRow lo c e prev j) + lo) (prev j + e j) else jmin (prev (j + 1)) (fRow lo c e prev j) + lo
def fAp (P : Nat → Int) (a b i j : Nat) : Int := cA (P (12 * a + i) - P (12 * b + j))
def fPr (g : Int) (P W : Nat → Int) (a b i j : Nat) : Bool := decide (W (12 * a + i) = W (12 * b + j) ∧ fAp P a b i j ≤ g)
def fE (g lo : Int) (P W : Nat → Int) (a b : Nat) : Nat → Nat → Int
  | 0 => fun j => j * lo
  | i + 1 => fRow lo (fPr g P W a b i) (fAp P a b i) (fE g lo P W a b i)
/-- what the chest holds: sizes, places, worths in their bounds -/
def fOk (g lo : Int) (P W S : Nat → Int) : Prop := (0 ≤ g ∧ g ≤ 20) ∧ (1 ≤ lo ∧ lo ≤ 100) ∧ (∀ h, h < 20 → 0 ≤ S h ∧ S h ≤ 12) ∧ (∀ q, q < 240 → (0 ≤ P q ∧ P q ≤ 240) ∧ 0 ≤ W q ∧ W q ≤ 5)
theorem fAp_b {g lo : Int} {P W S : Nat → Int} (h : fOk g lo P W S) {a b i j : Nat} (ha : a < 20) (hb : b < 20) (hi : i < 12) (hj : j < 12) : 0 ≤ fAp P a b i j ∧ fAp P a b i j ≤ 240 := by
  have p := (h.2.2.2 (12 * a + i) (by omega)).1
  have q := (h.2.2.2 (12 * b + j) (by omega)).1
  have c := cA_s (P (12 * a + i) - P (12 * b + j))
  unfold fAp
  omega
theorem fRow_b {lo : Int} {c : Nat → Bool} {e prev : Nat → Int} (hl : 1 ≤ lo ∧ lo ≤ 100) (he : ∀ j, j < 12 → 0 ≤ e j) {i : Nat} (hp : ∀ j, j ≤ 12 → 0 ≤ prev j ∧ prev j ≤ 100 * (i + j : Nat)) : ∀ j, j ≤ 12 → 0 ≤ fRow lo c e prev j ∧ fRow lo c e prev j ≤ 100 * (i + 1 + j : Nat)
  | 0, _ => by
    have a := hp 0 (by omega)
    show 0 ≤ prev 0 + lo ∧ prev 0 + lo ≤ _
    omega
  | j + 1, hj => by
    have a := hp (j + 1) hj
    have b := hp j (by omega)
    have c1 := fRow_b (c := c) hl he hp j (by omega)
    have d := he j (by omega)
    have m1 := jmin_s (prev (j + 1)) (fRow lo c e prev j)
    have m2 := jmin_s (jmin (prev (j + 1)) (fRow lo c e prev j) + lo) (prev j + e j)
    unfold fRow
    split <;> omega
theorem fE_b {g lo : Int} {P W S : Nat → Int} (h : fOk g lo P W S) {a b : Nat} (ha : a < 20) (hb : b < 20) : ∀ i, i ≤ 12 → ∀ j, j ≤ 12 → 0 ≤ fE g lo P W a b i j ∧ fE g lo P W a b i j ≤ 100 * (i + j : Nat)
  | 0, _, j, hj => by
    have m1 := Int.mul_nonneg (show 0 ≤ (j : Int) by omega) (show 0 ≤ lo by have := h.2.1; omega)
    have m2 := Int.mul_le_mul_of_nonneg_left h.2.1.2 (show 0 ≤ (j : Int) by omega)
    show 0 ≤ (j : Int) * lo ∧ (j : Int) * lo ≤ _
    omega
  | i + 1, hi, j, hj => fRow_b h.2.1 (fun j hj => (fAp_b h ha hb (by omega) hj).1) (fE_b h ha hb i (by omega)) j hj
theorem w_isHalf {a : Int} {Q : Int → Prop} : wp (iChest_isHalf a) Q ↔ ((0 ≤ a ∧ a < 20) → Q 1) ∧ (¬ (0 ≤ a ∧ a < 20) → Q 0) := by
  unfold iChest_isHalf
  simp only [wp_ite, wp_some]
  constructor
  · intro h
    refine ⟨fun k => (h.2 (by omega)).2 (by omega), fun k => ?_⟩
    by_cases h1 : a < 0
    · exact h.1 h1
    · exact (h.2 h1).1 (by omega)
  · intro h
    exact ⟨fun k => h.2 (by omega), fun k => ⟨fun k2 => h.2 (by omega), fun k2 => h.1 (by omega)⟩⟩
theorem w_isStick {a : Int} {Q : Int → Prop} : wp (iK_isStick a) Q ↔ ((0 ≤ a ∧ a < 10) → Q 1) ∧ (¬ (0 ≤ a ∧ a < 10) → Q 0) := by
  unfold iK_isStick
  simp only [wp_ite, wp_some]
  constructor
  · intro h
    refine ⟨fun k => (h.2 (by omega)).2 (by omega), fun k => ?_⟩
    by_cases h1 : a < 0
    · exact h.1 h1
    · exact (h.2 h1).1 (by omega)
  · intro h
    exact ⟨fun k => h.2 (by omega), fun k => ⟨fun k2 => h.2 (by omega), fun k2 => h.1 (by omega)⟩⟩
theorem w_isThere {h : Nat} (hh : h < 20) {S : Nat → Int} {Q : Int → Prop} : wp (iChest_isThere h S) Q ↔ (0 < S h → Q 1) ∧ (¬ 0 < S h → Q 0) := by
  unfold iChest_isThere
  have eh : (h : Int).toNat = h := rfl
  rw [wp_bd1, w_isHalf]
  simp only [wp_ite, wp_gd, wp_some, jb_iff, eh]
  constructor
  · intro k
    have k2 := (k.1 (by omega)).2 (by decide)
    exact ⟨fun q => k2.2.2 (by omega), fun q => k2.2.1 (by omega)⟩
  · intro k
    exact ⟨fun _ => ⟨fun q => absurd q (by decide), fun _ => ⟨by omega, fun q => k.2 (by omega), fun q => k.1 (by omega)⟩⟩, fun q => absurd (show (0 : Int) ≤ h ∧ (h : Int) < 20 by omega) q⟩
theorem w_M_isThere {h : Nat} (hh : h < 20) {S : Nat → Int} {Q : Int → Prop} : wp (iM_isThere h S) Q ↔ (0 < S h → Q 1) ∧ (¬ 0 < S h → Q 0) := by
  unfold iM_isThere
  have eh : (h : Int).toNat = h := rfl
  rw [if_neg (by omega)]
  simp only [wp_ite, wp_gd, wp_some, jb_iff, eh]
  constructor
  · intro k
    exact ⟨fun q => k.2.2 (by omega), fun q => k.2.1 (by omega)⟩
  · intro k
    exact ⟨by omega, fun q => k.2 (by omega), fun q => k.1 (by omega)⟩
theorem w_pairCost {g lo : Int} {P W S : Nat → Int} (h : fOk g lo P W S) {a b i j : Nat} (ha : a < 20) (hb : b < 20) (hi : i < 12) (hj : j < 12) {x y : Int} (hx : x = ((12 * a + i : Nat) : Int)) (hy : y = ((12 * b + j : Nat) : Int)) : iChest_pairCost x y g P W = some (if fPr g P W a b i j = true then fAp P a b i j else -1) := by
  have p := (h.2.2.2 (12 * a + i) (by omega)).1
  have q := (h.2.2.2 (12 * b + j) (by omega)).1
  have c := cA_s (P (12 * a + i) - P (12 * b + j))
  have ex : x.toNat = 12 * a + i := by omega
  have ey : y.toNat = 12 * b + j := by omega
  unfold iChest_pairCost fPr
  rw [gd, if_pos (jb_iff.mpr (by omega)), gd, if_pos (jb_iff.mpr (by omega)), ex, ey]
  by_cases h1 : W (12 * a + i) = W (12 * b + j)
  · rw [if_pos h1, gd, if_pos (jr_iff.mpr (by omega)), jabs_cA, gd, if_pos (jr_iff.mpr (by omega))]
    by_cases h2 : g < cA (P (12 * a + i) - P (12 * b + j))
    · rw [if_pos h2, if_neg (fun k => by have := (of_decide_eq_true k).2; unfold fAp at this; omega)]
    · rw [if_neg h2, if_pos (decide_eq_true ⟨h1, by unfold fAp; omega⟩)]
      rfl
  · rw [if_neg h1, if_neg (fun k => h1 (of_decide_eq_true k).1)]
theorem w_leastCost {N : Nat} (hN : 5000 ≤ N) {g lo : Int} {P W S ab ro : Nat → Int} (h : fOk g lo P W S) {a b : Nat} (ha : a < 20) (hb : b < 20) : wp (iChest_leastCost N a b g lo ab P ro S W) (fun r => r.1 = fE g lo P W a b (S a).toNat (S b).toNat) := by
  have ea : (a : Int).toNat = a := rfl
  have eb : (b : Int).toNat = b := rfl
  have sa := h.2.2.1 a ha
  have sb := h.2.2.1 b hb
  have lo1 := h.2.1
  have hE := fE_b h ha hb
  unfold iChest_leastCost iChest_leastCost_b2
  refine wp_zlp2 (fun (k : Nat) (x3 : Int) (d : Nat → Int) => ∃ j : Nat, x3 = j ∧ (j : Int) + k = S b + 1 ∧ ∀ q, q < j → d q = fE g lo P W a b 0 q) ?_ N (S b + 1).toNat 0 ro (by omega) ⟨0, rfl, by omega, fun q hq => by omega⟩
  intro self k x3 d ⟨j, e1, e2, e3⟩ ih
  subst e1
  have ej : (j : Int).toNat = j := rfl
  unfold iChest_leastCost_b2_F
  rw [wp_gd, wp_ite, eb]
  refine ⟨jb_iff.mpr (by omega), fun hend => ?_, fun hgo => ?_⟩
  · show wp (iChest_leastCost_b30 N a b g lo P S W ab d) _
    unfold iChest_leastCost_b30 iChest_leastCost_b32
    refine wp_zlp3 (fun (k : Nat) (x3 : Int) (u v : Nat → Int) => ∃ i : Nat, x3 = i ∧ (i : Int) + k = S a ∧ ∀ q : Nat, (q : Int) ≤ S b → v q = fE g lo P W a b i q) ?_ N (S a).toNat 0 ab d (by omega) ⟨0, rfl, by omega, fun q hq => e3 q (by omega)⟩
    intro self2 k2 y3 u v ⟨i, f1, f2, f3⟩ ih2
    subst f1
    unfold iChest_leastCost_b32_F
    rw [wp_gd, wp_ite, ea]
    refine ⟨jb_iff.mpr (by omega), fun hend2 => ?_, fun hgo2 => ?_⟩
    · rw [wp_gd, wp_gd, wp_some, eb]
      refine ⟨jb_iff.mpr (by omega), jb_iff.mpr (by omega), ?_⟩
      show v (S b).toNat = _
      rw [f3 (S b).toNat (by omega), show i = (S a).toNat by omega]
    · have hcp : ∀ q, q < 13 → va_cpy v u 0 0 13 q = v q := fun q hq => by
        rw [va_cpy, if_pos (by omega), Nat.sub_zero, Nat.zero_add]
      have v0 := f3 0 (by omega)
      have hE0 := hE i (by omega) 0 (by omega)
      rw [wp_gd, jr_iff, hcp 0 (by omega)]
      refine ⟨by omega, ?_⟩
      unfold iChest_leastCost_b80
      refine wp_zlp2 (fun (k : Nat) (x4 : Int) (d : Nat → Int) => ∃ j : Nat, x4 = j ∧ (j : Int) + k = S b ∧ ∀ q, q ≤ j → d q = fE g lo P W a b (i + 1) q) ?_ N (S b).toNat 0 _ (by omega) ⟨0, rfl, by omega, fun q hq => ?_⟩
      · intro self3 k3 y4 d3 ⟨j, g1, g2, g3⟩ ih3
        subst g1
        have ej : (j : Int).toNat = j := rfl
        have ej1 : ((j : Int) + 1).toNat = j + 1 := by omega
        unfold iChest_leastCost_b80_F
        rw [wp_gd, wp_ite, eb]
        refine ⟨jb_iff.mpr (by omega), fun hend3 => ?_, fun hgo3 => ?_⟩
        · show wp (iChest_leastCost_b177 N a b g lo P S W self2 i (va_cpy v u 0 0 13) d3) _
          unfold iChest_leastCost_b177
          rw [wp_gd]
          exact ⟨jr_iff.mpr (by omega), ih2 (k2 - 1) _ _ _ (by omega) ⟨i + 1, by omega, by omega, fun q hq => g3 q (by omega)⟩⟩
        · have b1 := hE i (by omega) (j + 1) (by omega)
          have b2 := hE i (by omega) j (by omega)
          have b3 := hE (i + 1) (by omega) j (by omega)
          have c1 := f3 (j + 1) (by omega)
          have c2 := f3 j (by omega)
          have c3 := g3 j (by omega)
          have ap := fAp_b h ha hb (i := i) (j := j) (by omega) (by omega)
          have m1 := jmin_s (fE g lo P W a b i (j + 1)) (fE g lo P W a b (i + 1) j)
          have fin : ∀ val : Int, val = fE g lo P W a b (i + 1) (j + 1) → wp (iChest_leastCost_b170 N a b g lo P S W self3 (fun e11_ => iChest_leastCost_b177 N a b g lo P S W self2 i (va_cpy v u 0 0 13) e11_) i j (j + 1) val (va_cpy v u 0 0 13) d3) (fun r => r.1 = fE g lo P W a b (S a).toNat (S b).toNat) := fun val hv => by
            unfold iChest_leastCost_b170
            rw [wp_gd, wp_gd, ej1]
            refine ⟨jb_iff.mpr (by omega), jr_iff.mpr (by omega), ih3 (k3 - 1) _ _ (by omega) ⟨j + 1, by omega, by omega, fun q hq => ?_⟩⟩
            by_cases hq2 : q = j + 1
            · rw [hq2, va_up_self, hv]
            · rw [va_up_ne _ _ hq2]
              exact g3 q (by omega)
          simp only [wp_gd, wp_bd1, wp_ite, jb_iff, jr_iff, ej, ej1, hcp (j + 1) (by omega), hcp j (by omega), c1, c2, c3]
          refine ⟨by omega, by omega, by omega, by omega, by omega, by omega, by omega, ?_⟩
          rw [w_pairCost h ha hb (i := i) (j := j) (by omega) (by omega) (by omega) (by omega), wp_some]
          by_cases hp : fPr g P W a b i j = true
          · rw [if_pos hp]
            refine ⟨fun e => by omega, fun _ => ⟨by omega, by omega, fin _ ?_⟩⟩
            show _ = fRow lo (fPr g P W a b i) (fAp P a b i) (fE g lo P W a b i) (j + 1)
            unfold fRow
            rw [if_pos hp]
            rfl
          · rw [if_neg hp]
            refine ⟨fun _ => ⟨by omega, fin _ ?_⟩, fun e => absurd rfl e⟩
            show _ = fRow lo (fPr g P W a b i) (fAp P a b i) (fE g lo P W a b i) (j + 1)
            unfold fRow
            rw [if_neg hp]
            rfl
      · have : q = 0 := by omega
        subst this
        rw [va_up_self, v0]
        rfl
  · have hm := (hE 0 (by omega) j (by omega))
    have hm2 : fE g lo P W a b 0 j = (j : Int) * lo := rfl
    rw [hm2] at hm
    rw [wp_gd, wp_gd, wp_gd, ej]
    refine ⟨jb_iff.mpr (by omega), jr_iff.mpr (by omega), jr_iff.mpr (by omega), ih (k - 1) _ _ (by omega) ⟨j + 1, by omega, by omega, fun q hq => ?_⟩⟩
    by_cases hq2 : q = j
    · rw [hq2, va_up_self]
      rfl
    · rw [va_up_ne _ _ hq2]
      exact e3 q (by omega)
theorem w_pairs {g lo : Int} {P W S : Nat → Int} (h : fOk g lo P W S) {a b i j : Nat} (ha : a < 20) (hb : b < 20) (hi : i < 12) (hj : j < 12) {x y : Int} (hx : x = ((12 * a + i : Nat) : Int)) (hy : y = ((12 * b + j : Nat) : Int)) : iM_pairs x y g P W = some (if fPr g P W a b i j = true then 1 else 0) := by
  have p := (h.2.2.2 (12 * a + i) (by omega)).1
  have q := (h.2.2.2 (12 * b + j) (by omega)).1
  have c := cA_s (P (12 * a + i) - P (12 * b + j))
  have ex : x.toNat = 12 * a + i := by omega
  have ey : y.toNat = 12 * b + j := by omega
  unfold iM_pairs fPr
  rw [gd, if_pos (jb_iff.mpr (by omega)), gd, if_pos (jb_iff.mpr (by omega)), ex, ey]
  by_cases h1 : W (12 * a + i) = W (12 * b + j)
  · rw [if_pos h1, gd, if_pos (jr_iff.mpr (by omega)), w_size (by omega) (by omega)]
    show (if g < cA (P (12 * a + i) - P (12 * b + j)) then some 0 else some 1) = _
    by_cases h2 : g < cA (P (12 * a + i) - P (12 * b + j))
    · rw [if_pos h2, if_neg (fun k => by have := (of_decide_eq_true k).2; unfold fAp at this; omega)]
    · rw [if_neg h2, if_pos (decide_eq_true ⟨h1, by unfold fAp; omega⟩)]
  · rw [if_neg h1, if_neg (fun k => h1 (of_decide_eq_true k).1)]
theorem jmin_le {x y : Int} (h : x ≤ y) : jmin x y = x := by
  unfold jmin
  rw [if_neg (by omega)]
theorem jmin_gt {x y : Int} (h : ¬ x ≤ y) : jmin x y = y := by
  unfold jmin
  rw [if_pos (by omega)]
theorem w_M_fitOf {N : Nat} (hN : 5000 ≤ N) {g lo : Int} {P W S co : Nat → Int} (h : fOk g lo P W S) {a b : Nat} (ha : a < 20) (hb : b < 20) : wp (iM_fitOf N a b g lo co P W S) (fun r => r.1 = fE g lo P W a b (S a).toNat (S b).toNat) := by
  have ea : (a : Int).toNat = a := rfl
  have eb : (b : Int).toNat = b := rfl
  have sa := h.2.2.1 a ha
  have sb := h.2.2.1 b hb
  have lo1 := h.2.1
  have hE := fE_b h ha hb
  unfold iM_fitOf iM_fitOf_b2
  refine wp_zlp2 (fun (k : Nat) (x3 : Int) (d : Nat → Int) => ∃ i : Nat, x3 = i ∧ (i : Int) + k = S a + 1 ∧ ∀ i2 j2 : Nat, i2 < i → (j2 : Int) ≤ S b → d (13 * i2 + j2) = fE g lo P W a b i2 j2) ?_ N (S a + 1).toNat 0 co (by omega) ⟨0, rfl, by omega, fun i2 j2 hi hj => by omega⟩
  intro self k x3 d ⟨i, e1, e2, e3⟩ ih
  subst e1
  have ei : (i : Int).toNat = i := rfl
  unfold iM_fitOf_b2_F
  rw [wp_gd, wp_ite, ea]
  refine ⟨jb_iff.mpr (by omega), fun hend => ?_, fun hgo => ?_⟩
  · simp only [wp_gd, wp_some, jb_iff, jr_iff, ea, eb]
    refine ⟨by omega, by omega, by omega, by omega, ?_⟩
    have := e3 (S a).toNat (S b).toNat (by omega) (by omega)
    rw [show ((13 * S a + S b).toNat) = 13 * (S a).toNat + (S b).toNat by omega]
    exact this
  · unfold iM_fitOf_b15
    refine wp_zlp2 (fun (k : Nat) (x4 : Int) (d : Nat → Int) => ∃ j : Nat, x4 = j ∧ (j : Int) + k = S b + 1 ∧ (∀ i2 j2 : Nat, i2 < i → (j2 : Int) ≤ S b → d (13 * i2 + j2) = fE g lo P W a b i2 j2) ∧ ∀ j2 : Nat, j2 < j → d (13 * i + j2) = fE g lo P W a b i j2) ?_ N (S b + 1).toNat 0 d (by omega) ⟨0, rfl, by omega, e3, fun j2 hj => by omega⟩
    intro self2 k2 x4 d2 ⟨j, f1, f2, f3, f4⟩ ih2
    subst f1
    have ej : (j : Int).toNat = j := rfl
    unfold iM_fitOf_b15_F
    rw [wp_gd, wp_ite, eb]
    refine ⟨jb_iff.mpr (by omega), fun hend2 => ?_, fun hgo2 => ?_⟩
    · show wp (iM_fitOf_b256 N a b g lo P W S self i d2) _
      unfold iM_fitOf_b256
      rw [wp_gd]
      refine ⟨jr_iff.mpr (by omega), ih (k - 1) _ _ (by omega) ⟨i + 1, by omega, by omega, fun i2 j2 hi hj => ?_⟩⟩
      by_cases hi2 : i2 = i
      · rw [hi2]
        exact f4 j2 (by omega)
      · exact f3 i2 j2 (by omega) hj
    · have bij := hE i (by omega) j (by omega)
      have fin : ∀ val : Int, val = fE g lo P W a b i j → wp (iM_fitOf_b236 N a b g lo P W S self2 (fun e10_ => iM_fitOf_b256 N a b g lo P W S self i e10_) i j val d2) (fun r => r.1 = fE g lo P W a b (S a).toNat (S b).toNat) := fun val hv => by
        have ex : ((13 : Int) * i + j).toNat = 13 * i + j := by omega
        unfold iM_fitOf_b236
        simp only [wp_gd, jb_iff, jr_iff, ex]
        refine ⟨by omega, by omega, by omega, by omega, ih2 (k2 - 1) _ _ (by omega) ⟨j + 1, by omega, by omega, fun i2 j2 hi hj => ?_, fun j2 hj => ?_⟩⟩
        · rw [va_up_ne _ _ (by omega)]
          exact f3 i2 j2 hi hj
        · by_cases hj2 : j2 = j
          · rw [hj2, va_up_self, hv]
          · rw [va_up_ne _ _ (by omega)]
            exact f4 j2 (by omega)
      -- ahead of the pairing
      have p142 : ∀ x5 : Int, (i = 0 ∨ j = 0 → x5 = fE g lo P W a b i j) → (∀ i2 j2, i = i2 + 1 → j = j2 + 1 → x5 = jmin (fE g lo P W a b i2 (j2 + 1)) (fE g lo P W a b (i2 + 1) j2) + lo) → wp (iM_fitOf_b142 N a b g lo P W S self2 (fun e10_ => iM_fitOf_b256 N a b g lo P W S self i e10_) i j x5 d2) (fun r => r.1 = fE g lo P W a b (S a).toNat (S b).toNat) := fun x5 hx hy => by
        unfold iM_fitOf_b142
        rw [wp_ite]
        refine ⟨fun q => fin _ (hx (Or.inl (by omega))), fun q => ?_⟩
        rw [wp_ite]
        refine ⟨fun q2 => fin _ (hx (Or.inr (by omega))), fun q2 => ?_⟩
        obtain ⟨i2, hi2⟩ : ∃ i2, i = i2 + 1 := ⟨i - 1, by omega⟩
        obtain ⟨j2, hj2⟩ : ∃ j2, j = j2 + 1 := ⟨j - 1, by omega⟩
        have hv := hy i2 j2 hi2 hj2
        have b1 := hE i2 (by omega) j2 (by omega)
        have b2 := hE i2 (by omega) (j2 + 1) (by omega)
        have b3 := hE (i2 + 1) (by omega) j2 (by omega)
        have m1 := jmin_s (fE g lo P W a b i2 (j2 + 1)) (fE g lo P W a b (i2 + 1) j2)
        have ap := fAp_b h ha hb (i := i2) (j := j2) (by omega) (by omega)
        have pa := (h.2.2.2 (12 * a + i2) (by omega)).1
        have pb := (h.2.2.2 (12 * b + j2) (by omega)).1
        have d1 := f3 i2 j2 (by omega) (by omega)
        have hfE : fE g lo P W a b i j = if fPr g P W a b i2 j2 = true then jmin (jmin (fE g lo P W a b i2 (j2 + 1)) (fE g lo P W a b (i2 + 1) j2) + lo) (fE g lo P W a b i2 j2 + fAp P a b i2 j2) else jmin (fE g lo P W a b i2 (j2 + 1)) (fE g lo P W a b (i2 + 1) j2) + lo := by
          rw [hi2, hj2]
          rfl
        have ex1 : ((12 : Int) * a + i - 1).toNat = 12 * a + i2 := by omega
        have ex2 : ((12 : Int) * b + j - 1).toNat = 12 * b + j2 := by omega
        have ex3 : ((13 : Int) * (i - 1) + j - 1).toNat = 13 * i2 + j2 := by omega
        have eAp : fAp P a b i2 j2 = cA (P (12 * a + i2) - P (12 * b + j2)) := rfl
        simp only [wp_gd, wp_bd1, jb_iff, jr_iff, ex1, ex2, ex3]
        refine ⟨by omega, by omega, by omega, by omega, by omega, by omega, ?_⟩
        rw [w_pairs h ha hb (i := i2) (j := j2) (by omega) (by omega) (by omega) (by omega), wp_some]
        by_cases hp : fPr g P W a b i2 j2 = true
        · rw [if_pos hp] at hfE ⊢
          rw [if_neg (by decide)]
          simp only [wp_gd, wp_bd1, jb_iff, jr_iff]
          refine ⟨by omega, by omega, by omega, by omega, by omega, by omega, by omega, by omega, ?_⟩
          rw [w_size (by omega) (by omega), wp_some, ← eAp, d1, wp_ite]
          refine ⟨by omega, fun hle => fin _ ?_, fun hgt => fin _ ?_⟩
          · rw [hfE, ← hv, jmin_le hle]
          · rw [hfE, ← hv, jmin_gt hgt]
        · rw [if_neg hp] at hfE ⊢
          rw [if_pos rfl]
          exact fin _ (by rw [hfE, ← hv])
      have p92 : ∀ x5 : Int, (i = 0 → j = 0 → x5 = 0) → (i = 0 → 0 < j → x5 = 100000000) → (∀ i2, i = i2 + 1 → x5 = fE g lo P W a b i2 j + lo) → wp (iM_fitOf_b92 N a b g lo P W S self2 (fun e10_ => iM_fitOf_b256 N a b g lo P W S self i e10_) i j x5 d2) (fun r => r.1 = fE g lo P W a b (S a).toNat (S b).toNat) := fun x5 h1 h2 h3 => by
        unfold iM_fitOf_b92
        rw [wp_ite]
        refine ⟨fun q => p142 _ (fun _ => ?_) (fun i2 j2 hi hj => by omega), fun q => ?_⟩
        · have hj0 : j = 0 := by omega
          subst hj0
          cases i with
          | zero =>
            rw [h1 rfl rfl]
            show 0 = ((0 : Nat) : Int) * lo
            omega
          | succ i2 => exact h3 i2 rfl
        · obtain ⟨j2, hj2⟩ : ∃ j2, j = j2 + 1 := ⟨j - 1, by omega⟩
          have d1 := f4 j2 (by omega)
          have b3 := hE i (by omega) j2 (by omega)
          have ex3 : ((13 : Int) * i + j - 1).toNat = 13 * i + j2 := by omega
          simp only [wp_gd, wp_ite, jb_iff, jr_iff, ex3, d1]
          refine ⟨by omega, by omega, by omega, by omega, by omega, fun hle => p142 _ (fun hh => ?_) (fun i2 k2 hi hj => ?_), fun hgt => p142 _ (fun hh => ?_) (fun i2 k2 hi hj => ?_)⟩
          · rcases hh with hh | hh
            · have := h2 hh (by omega)
              omega
            · omega
          · have b2 := hE i2 (by omega) j (by omega)
            have x3 := h3 i2 hi
            have hk : k2 = j2 := by omega
            subst hk
            rw [hi] at hle
            rw [x3, hj2] at hle ⊢
            rw [jmin_le (by omega)]
          · rcases hh with hh | hh
            · subst hh
              rw [hj2]
              show ((j2 : Nat) : Int) * lo + lo = ((j2 + 1 : Nat) : Int) * lo
              rw [Int.natCast_add, Int.add_mul]
              omega
            · omega
          · have b2 := hE i2 (by omega) j (by omega)
            have x3 := h3 i2 hi
            have hk : k2 = j2 := by omega
            subst hk
            rw [hi] at hgt ⊢
            rw [x3, hj2] at hgt
            rw [jmin_gt (by omega)]
      have p41 : ∀ x5 : Int, (i = 0 → j = 0 → x5 = 0) → (0 < i ∨ 0 < j → x5 = 100000000) → wp (iM_fitOf_b41 N a b g lo P W S self2 (fun e10_ => iM_fitOf_b256 N a b g lo P W S self i e10_) i j x5 d2) (fun r => r.1 = fE g lo P W a b (S a).toNat (S b).toNat) := fun x5 h1 h2 => by
        unfold iM_fitOf_b41
        rw [wp_ite]
        refine ⟨fun q => p92 _ h1 (fun _ hj => h2 (Or.inr hj)) (fun i2 hi => by omega), fun q => ?_⟩
        obtain ⟨i2, hi2⟩ : ∃ i2, i = i2 + 1 := ⟨i - 1, by omega⟩
        have d1 := f3 i2 j (by omega) (by omega)
        have b3 := hE i2 (by omega) j (by omega)
        have x5v := h2 (Or.inl (by omega))
        have ex3 : ((13 : Int) * (i - 1) + j).toNat = 13 * i2 + j := by omega
        simp only [wp_gd, wp_ite, jb_iff, jr_iff, ex3, d1]
        refine ⟨by omega, by omega, by omega, by omega, by omega, fun hle => by omega, fun hgt => p92 _ (fun hi _ => by omega) (fun hi _ => by omega) (fun i3 hi => ?_)⟩
        rw [show i3 = i2 by omega]
      rw [wp_ite]
      refine ⟨fun hi => ?_, fun hi => ?_⟩
      · rw [wp_ite]
        refine ⟨fun hj => p41 _ (fun _ _ => rfl) (fun hh => by omega), fun hj => ?_⟩
        unfold iM_fitOf_b39
        exact p41 _ (fun _ _ => by omega) (fun _ => rfl)
      · unfold iM_fitOf_b39
        exact p41 _ (fun _ _ => by omega) (fun _ => rfl)
