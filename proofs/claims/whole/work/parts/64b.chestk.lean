set_option maxHeartbeats 4000000
set_option maxRecDepth 100000
/-! the chest's calls, on both sides -/
theorem fE_cg {g lo : Int} {P P2 W W2 : Nat → Int} {a b : Nat} (ha : ∀ i, i < 12 → P (12 * a + i) = P2 (12 * a + i) ∧ W (12 * a + i) = W2 (12 * a + i)) (hb : ∀ i, i < 12 → P (12 * b + i) = P2 (12 * b + i) ∧ W (12 * b + i) = W2 (12 * b + i)) : ∀ n, n ≤ 12 → ∀ m, m ≤ 12 → fE g lo P W a b n m = fE g lo P2 W2 a b n m
  | 0, _, m, _ => rfl
  | n + 1, hn, m, hm => by
    have ih := fE_cg (g := g) (lo := lo) ha hb n (by omega)
    have hc : ∀ j, j < 12 → fPr g P W a b n j = fPr g P2 W2 a b n j ∧ fAp P a b n j = fAp P2 a b n j := fun j hj => by
      have x := ha n (by omega)
      have y := hb j hj
      unfold fPr fAp
      rw [x.1, x.2, y.1, y.2]
      exact ⟨rfl, rfl⟩
    show fRow lo (fPr g P W a b n) (fAp P a b n) (fE g lo P W a b n) m = fRow lo (fPr g P2 W2 a b n) (fAp P2 a b n) (fE g lo P2 W2 a b n) m
    induction m with
    | zero =>
      show fE g lo P W a b n 0 + lo = fE g lo P2 W2 a b n 0 + lo
      rw [ih 0 (by omega)]
    | succ m ihm =>
      unfold fRow
      rw [ihm (by omega), ih (m + 1) hm, ih m (by omega), (hc m (by omega)).1, (hc m (by omega)).2]
theorem w_forget {N : Nat} (hN : 5000 ≤ N) {h : Nat} {ch isM : Int} {fi : Nat → Int} (hh : h < 20) (hc : 0 ≤ ch ∧ ch ≤ 1000000) : wp (iChest_forget N h ch isM fi) (fun r => r.1 = ch + 1 ∧ r.2.1 = 0 ∧ ∀ i j, i < 10 → j < 10 → ((i = h ∨ 10 + j = h) → r.2.2 (10 * i + j) = -2) ∧ (¬ (i = h ∨ 10 + j = h) → r.2.2 (10 * i + j) = fi (10 * i + j))) := by
  unfold iChest_forget iChest_forget_b2
  refine wp_zlp2 (fun (k : Nat) (x2 : Int) (f : Nat → Int) => ∃ n : Nat, x2 = n ∧ n + k = 10 ∧ ∀ i j, i < 10 → j < 10 → (((i = h ∧ j < n) ∨ (10 + j = h ∧ i < n)) → f (10 * i + j) = -2) ∧ (¬ (i = h ∨ 10 + j = h) → f (10 * i + j) = fi (10 * i + j))) ?_ N 10 0 fi (by omega) ⟨0, rfl, rfl, fun i j hi hj => ⟨fun h => by omega, fun _ => rfl⟩⟩
  intro self k x2 f ⟨n, e1, e2, e3⟩ ih
  subst e1
  unfold iChest_forget_b2_F
  cases k with
  | zero =>
    rw [if_pos (by omega), wp_gd, wp_some]
    refine ⟨jr_iff.mpr (by omega), rfl, rfl, fun i j hi hj => ⟨fun hx => (e3 i j hi hj).1 (by omega), (e3 i j hi hj).2⟩⟩
  | succ k =>
    have go : ∀ (s : Int) (q : Nat), s = q → q < 100 → (∀ i j, i < 10 → j < 10 → (10 * i + j = q ↔ (i = h ∧ j = n) ∨ (10 + j = h ∧ i = n))) → wp (iChest_forget_b36 N h self n s ch isM f) (fun r => r.1 = ch + 1 ∧ r.2.1 = 0 ∧ ∀ i j, i < 10 → j < 10 → ((i = h ∨ 10 + j = h) → r.2.2 (10 * i + j) = -2) ∧ (¬ (i = h ∨ 10 + j = h) → r.2.2 (10 * i + j) = fi (10 * i + j))) := fun s q hs hq hiff => by
      subst hs
      have eq : (q : Int).toNat = q := rfl
      unfold iChest_forget_b36
      rw [wp_gd, wp_gd, eq]
      refine ⟨jb_iff.mpr (by omega), jr_iff.mpr (by omega), ih k _ _ (Nat.lt_succ_self k) ⟨n + 1, by omega, by omega, fun i j hi hj => ?_⟩⟩
      have t := hiff i j hi hj
      by_cases e : 10 * i + j = q
      · rw [e, va_up_self]
        exact ⟨fun _ => rfl, fun hx => absurd (t.mp e) (by omega)⟩
      · rw [va_up_ne _ _ e]
        refine ⟨fun hx => (e3 i j hi hj).1 ?_, (e3 i j hi hj).2⟩
        have t2 : ¬ ((i = h ∧ j = n) ∨ (10 + j = h ∧ i = n)) := fun w => e (t.mpr w)
        omega
    rw [if_neg (by omega), wp_ite]
    refine ⟨fun hge => ?_, fun hlt => ?_⟩
    · rw [wp_gd, wp_gd, wp_gd]
      exact ⟨jr_iff.mpr (by omega), jr_iff.mpr (by omega), jr_iff.mpr (by omega), go _ (10 * n + (h - 10)) (by omega) (by omega) (fun i j hi hj => by omega)⟩
    · rw [wp_gd, wp_gd]
      exact ⟨jr_iff.mpr (by omega), jr_iff.mpr (by omega), go _ (10 * h + n) (by omega) (by omega) (fun i j hi hj => by omega)⟩
def cHf (f k : Int) : Nat := if f = 0 then k.toNat else 10 + k.toNat
theorem cHf_lt {f k : Int} (h : 0 ≤ k ∧ k < 10) : cHf f k < 20 := by
  unfold cHf
  split <;> omega
theorem w_half {f k : Int} (h : 0 ≤ k ∧ k < 10) : iK_half f k = some (cHf f k : Int) := by
  unfold iK_half cHf
  by_cases e : f = 0
  · rw [if_pos e, if_pos e]
    congr 1
    omega
  · rw [if_neg e, if_neg e, gd, if_pos (jr_iff.mpr (by omega))]
    congr 1
    omega
theorem w_M_half {f k : Int} : iM_half f k = some (if 0 ≤ k ∧ k < 10 then (cHf f k : Int) else -1) := by
  have h := w_isIn (a := k) (b := 0) (c := 9) (Q := fun r => r = if 0 ≤ k ∧ k < 10 then 1 else 0)
  have h2 : wp (iM_isIn k 0 9) (fun r => r = if 0 ≤ k ∧ k < 10 then 1 else 0) := h.mpr ⟨fun a => by rw [if_pos (by omega)], fun a => by rw [if_neg (by omega)]⟩
  obtain ⟨r, e1, e2⟩ := h2
  unfold iM_half
  rw [e1]
  show (if r = 0 then some (-1) else _) = _
  by_cases c : 0 ≤ k ∧ k < 10
  · rw [if_pos c] at e2 ⊢
    rw [if_neg (by omega)]
    unfold cHf
    by_cases e : f = 0
    · rw [if_pos e, if_pos e]
      congr 1
      omega
    · rw [if_neg e, if_neg e, gd, if_pos (jr_iff.mpr (by omega))]
      congr 1
      omega
  · rw [if_neg c] at e2 ⊢
    rw [if_pos e2]
/-- when a cut can be -/
def cCut (f k pl wo : Int) (P S : Nat → Int) : Prop := (0 ≤ k ∧ k < 10) ∧ (0 ≤ pl ∧ pl ≤ 240) ∧ (0 ≤ wo ∧ wo ≤ 5) ∧ S (cHf f k) < 12 ∧ (S (cHf f k) ≤ 0 ∨ P (12 * cHf f k + (S (cHf f k)).toNat - 1) < pl)
theorem w_K_cut {N : Nat} (hN : 5000 ≤ N) {f k pl wo ch isM g lo : Int} {fi P S W : Nat → Int} (ok : fOk g lo P W S) (hc : 0 ≤ ch ∧ ch ≤ 1000000) : wp (iK_cut N f k pl wo ch isM fi P S W) (fun r => (cCut f k pl wo P S → r.1 = S (cHf f k) + 1 ∧ r.2.1 = ch + 1 ∧ r.2.2.1 = 0 ∧ (∀ i j, i < 10 → j < 10 → ((i = cHf f k ∨ 10 + j = cHf f k) → r.2.2.2.1 (10 * i + j) = -2) ∧ (¬ (i = cHf f k ∨ 10 + j = cHf f k) → r.2.2.2.1 (10 * i + j) = fi (10 * i + j))) ∧ r.2.2.2.2.1 = va_up P (12 * cHf f k + (S (cHf f k)).toNat) pl ∧ r.2.2.2.2.2.1 = va_up S (cHf f k) (S (cHf f k) + 1) ∧ r.2.2.2.2.2.2 = va_up W (12 * cHf f k + (S (cHf f k)).toNat) wo) ∧ (¬ cCut f k pl wo P S → r.1 = -1 ∧ r.2.1 = ch ∧ r.2.2.1 = isM ∧ r.2.2.2.1 = fi ∧ r.2.2.2.2.1 = P ∧ r.2.2.2.2.2.1 = S ∧ r.2.2.2.2.2.2 = W)) := by
  have no : ¬ cCut f k pl wo P S → wp (some ((-1 : Int), ch, isM, fi, P, S, W)) (fun r => (cCut f k pl wo P S → r.1 = S (cHf f k) + 1 ∧ r.2.1 = ch + 1 ∧ r.2.2.1 = 0 ∧ (∀ i j, i < 10 → j < 10 → ((i = cHf f k ∨ 10 + j = cHf f k) → r.2.2.2.1 (10 * i + j) = -2) ∧ (¬ (i = cHf f k ∨ 10 + j = cHf f k) → r.2.2.2.1 (10 * i + j) = fi (10 * i + j))) ∧ r.2.2.2.2.1 = va_up P (12 * cHf f k + (S (cHf f k)).toNat) pl ∧ r.2.2.2.2.2.1 = va_up S (cHf f k) (S (cHf f k) + 1) ∧ r.2.2.2.2.2.2 = va_up W (12 * cHf f k + (S (cHf f k)).toNat) wo) ∧ (¬ cCut f k pl wo P S → r.1 = -1 ∧ r.2.1 = ch ∧ r.2.2.1 = isM ∧ r.2.2.2.1 = fi ∧ r.2.2.2.2.1 = P ∧ r.2.2.2.2.2.1 = S ∧ r.2.2.2.2.2.2 = W)) := fun hn => by
    rw [wp_some]
    exact ⟨fun h => absurd h hn, fun _ => ⟨rfl, rfl, rfl, rfl, rfl, rfl, rfl⟩⟩
  unfold iK_cut
  rw [wp_bd1, w_isStick]
  refine ⟨fun hk => ?_, fun hk => ?_⟩
  · rw [if_neg (by decide), wp_bd1, w_half hk, wp_some, wp_bd7]
    have hlt := cHf_lt (f := f) hk
    have sb := ok.2.2.1 _ hlt
    generalize hH : cHf f k = h at *
    have eh : (h : Int).toNat = h := rfl
    have cc : cCut f k pl wo P S ↔ (0 ≤ pl ∧ pl ≤ 240) ∧ (0 ≤ wo ∧ wo ≤ 5) ∧ S h < 12 ∧ (S h ≤ 0 ∨ P (12 * h + (S h).toNat - 1) < pl) := by
      unfold cCut
      rw [hH]
      exact ⟨fun x => x.2, fun x => ⟨hk, x⟩⟩
    -- from here on the tuple goes out as it is
    unfold iChest_addCut
    have b76 : cCut f k pl wo P S → wp (iChest_addCut_b76 N h pl wo (S h) ((h : Int) * 12 + S h) ch isM fi P S W) (fun r => wp (some (r.1, r.2.1, r.2.2.1, r.2.2.2.1, r.2.2.2.2.1, r.2.2.2.2.2.1, r.2.2.2.2.2.2)) (fun r => (cCut f k pl wo P S → r.1 = S h + 1 ∧ r.2.1 = ch + 1 ∧ r.2.2.1 = 0 ∧ (∀ i j, i < 10 → j < 10 → ((i = h ∨ 10 + j = h) → r.2.2.2.1 (10 * i + j) = -2) ∧ (¬ (i = h ∨ 10 + j = h) → r.2.2.2.1 (10 * i + j) = fi (10 * i + j))) ∧ r.2.2.2.2.1 = va_up P (12 * h + (S h).toNat) pl ∧ r.2.2.2.2.2.1 = va_up S h (S h + 1) ∧ r.2.2.2.2.2.2 = va_up W (12 * h + (S h).toNat) wo) ∧ (¬ cCut f k pl wo P S → r.1 = -1 ∧ r.2.1 = ch ∧ r.2.2.1 = isM ∧ r.2.2.2.1 = fi ∧ r.2.2.2.2.1 = P ∧ r.2.2.2.2.2.1 = S ∧ r.2.2.2.2.2.2 = W))) := fun hy => by
      have c2 := cc.mp hy
      have ex : ((h : Int) * 12 + S h).toNat = 12 * h + (S h).toNat := by omega
      unfold iChest_addCut_b76
      rw [wp_gd, wp_gd, wp_bd3, ex, eh]
      refine ⟨jb_iff.mpr (by omega), jb_iff.mpr (by omega), wp_mono (w_forget hN hlt hc) (fun r ⟨r1, r2, r3⟩ => ?_)⟩
      rw [wp_gd, wp_some, wp_some]
      exact ⟨jr_iff.mpr (by omega), fun _ => ⟨rfl, r1, r2, r3, rfl, rfl, rfl⟩, fun n => absurd hy n⟩
    have no2 : ¬ cCut f k pl wo P S → wp (some ((-1 : Int), ch, isM, fi, P, S, W)) (fun r => wp (some (r.1, r.2.1, r.2.2.1, r.2.2.2.1, r.2.2.2.2.1, r.2.2.2.2.2.1, r.2.2.2.2.2.2)) (fun r => (cCut f k pl wo P S → r.1 = S h + 1 ∧ r.2.1 = ch + 1 ∧ r.2.2.1 = 0 ∧ (∀ i j, i < 10 → j < 10 → ((i = h ∨ 10 + j = h) → r.2.2.2.1 (10 * i + j) = -2) ∧ (¬ (i = h ∨ 10 + j = h) → r.2.2.2.1 (10 * i + j) = fi (10 * i + j))) ∧ r.2.2.2.2.1 = va_up P (12 * h + (S h).toNat) pl ∧ r.2.2.2.2.2.1 = va_up S h (S h + 1) ∧ r.2.2.2.2.2.2 = va_up W (12 * h + (S h).toNat) wo) ∧ (¬ cCut f k pl wo P S → r.1 = -1 ∧ r.2.1 = ch ∧ r.2.2.1 = isM ∧ r.2.2.2.1 = fi ∧ r.2.2.2.2.1 = P ∧ r.2.2.2.2.2.1 = S ∧ r.2.2.2.2.2.2 = W))) := fun hn => by
      rw [wp_some, wp_some]
      exact ⟨fun h => absurd h hn, fun _ => ⟨rfl, rfl, rfl, rfl, rfl, rfl, rfl⟩⟩
    rw [wp_bd1, w_isHalf]
    refine ⟨fun _ => ?_, fun n => by omega⟩
    rw [if_neg (by decide), wp_ite]
    refine ⟨fun q => no2 (fun w => by have := cc.mp w; omega), fun q1 => ?_⟩
    rw [wp_ite]
    refine ⟨fun q => no2 (fun w => by have := cc.mp w; omega), fun q2 => ?_⟩
    rw [wp_ite]
    refine ⟨fun q => no2 (fun w => by have := cc.mp w; omega), fun q3 => ?_⟩
    rw [wp_gd, wp_ite]
    refine ⟨jr_iff.mpr (by omega), fun q4 => ?_, fun q => no2 (fun w => by have := cc.mp w; omega)⟩
    rw [wp_gd, wp_ite, eh]
    refine ⟨jb_iff.mpr (by omega), fun q => no2 (fun w => by have := cc.mp w; omega), fun q5 => ?_⟩
    rw [wp_ite]
    refine ⟨fun q6 => ?_, fun q6 => ?_⟩
    · rw [wp_gd, wp_gd]
      exact ⟨jr_iff.mpr (by omega), jr_iff.mpr (by omega), b76 (cc.mpr ⟨by omega, by omega, by omega, Or.inl q6⟩)⟩
    · have ex : ((h : Int) * 12 + S h - 1).toNat = 12 * h + (S h).toNat - 1 := by omega
      rw [wp_gd, wp_gd, wp_gd, wp_gd, wp_ite, ex]
      refine ⟨jr_iff.mpr (by omega), jr_iff.mpr (by omega), jr_iff.mpr (by omega), jb_iff.mpr (by omega), fun q7 => b76 (cc.mpr ⟨by omega, by omega, by omega, Or.inr q7⟩), fun q7 => no2 (fun w => ?_)⟩
      have := (cc.mp w).2.2.2
      omega
  · rw [if_pos rfl]
    exact no (fun w => hk w.1)
theorem w_M_cut {f k pl wo g lo : Int} {P S W : Nat → Int} (ok : fOk g lo P W S) : wp (iM_cut f k pl wo P W S) (fun r => (cCut f k pl wo P S → r.1 = S (cHf f k) + 1 ∧ r.2.1 = va_up P (12 * cHf f k + (S (cHf f k)).toNat) pl ∧ r.2.2.1 = va_up W (12 * cHf f k + (S (cHf f k)).toNat) wo ∧ r.2.2.2 = va_up S (cHf f k) (S (cHf f k) + 1)) ∧ (¬ cCut f k pl wo P S → r.1 = -1 ∧ r.2.1 = P ∧ r.2.2.1 = W ∧ r.2.2.2 = S)) := by
  have no : ¬ cCut f k pl wo P S → wp (some ((-1 : Int), P, W, S)) (fun r => (cCut f k pl wo P S → r.1 = S (cHf f k) + 1 ∧ r.2.1 = va_up P (12 * cHf f k + (S (cHf f k)).toNat) pl ∧ r.2.2.1 = va_up W (12 * cHf f k + (S (cHf f k)).toNat) wo ∧ r.2.2.2 = va_up S (cHf f k) (S (cHf f k) + 1)) ∧ (¬ cCut f k pl wo P S → r.1 = -1 ∧ r.2.1 = P ∧ r.2.2.1 = W ∧ r.2.2.2 = S)) := fun hn => by
    rw [wp_some]
    exact ⟨fun h => absurd h hn, fun _ => ⟨rfl, rfl, rfl, rfl⟩⟩
  unfold iM_cut
  rw [wp_bd1, w_M_half, wp_some]
  by_cases hk : 0 ≤ k ∧ k < 10
  · have hlt := cHf_lt (f := f) hk
    have sb := ok.2.2.1 _ hlt
    rw [if_pos hk, if_neg (by omega), wp_bd1, w_isIn]
    generalize hH : cHf f k = h at *
    have eh : (h : Int).toNat = h := rfl
    have cc : cCut f k pl wo P S ↔ (0 ≤ pl ∧ pl ≤ 240) ∧ (0 ≤ wo ∧ wo ≤ 5) ∧ S h < 12 ∧ (S h ≤ 0 ∨ P (12 * h + (S h).toNat - 1) < pl) := by
      unfold cCut
      rw [hH]
      exact ⟨fun x => x.2, fun x => ⟨hk, x⟩⟩
    refine ⟨fun q1 => ?_, fun q1 => ?_⟩
    · rw [if_neg (by decide), wp_bd1, w_isIn]
      refine ⟨fun q2 => ?_, fun q2 => ?_⟩
      · rw [if_neg (by decide), wp_gd, wp_ite, eh]
        have b88 : cCut f k pl wo P S → wp (iM_cut_b88 f k pl wo h P W S) (fun r => (cCut f k pl wo P S → r.1 = S h + 1 ∧ r.2.1 = va_up P (12 * h + (S h).toNat) pl ∧ r.2.2.1 = va_up W (12 * h + (S h).toNat) wo ∧ r.2.2.2 = va_up S h (S h + 1)) ∧ (¬ cCut f k pl wo P S → r.1 = -1 ∧ r.2.1 = P ∧ r.2.2.1 = W ∧ r.2.2.2 = S)) := fun hy => by
          have c2 := cc.mp hy
          have ex : ((12 : Int) * h + S h).toNat = 12 * h + (S h).toNat := by omega
          unfold iM_cut_b88
          simp only [wp_gd, wp_some, jb_iff, jr_iff, eh, ex, va_up_self]
          exact ⟨by omega, by omega, by omega, by omega, by omega, fun _ => ⟨trivial, trivial, trivial, trivial⟩, fun n => absurd hy n⟩
        refine ⟨jb_iff.mpr (by omega), fun q => no (fun w => by have := cc.mp w; omega), fun q3 => ?_⟩
        rw [wp_ite]
        refine ⟨fun q6 => b88 (cc.mpr ⟨q1, q2, by omega, Or.inl q6⟩), fun q6 => ?_⟩
        have ex : ((12 : Int) * h + S h - 1).toNat = 12 * h + (S h).toNat - 1 := by omega
        rw [wp_gd, wp_gd, wp_gd, wp_gd, wp_ite, ex]
        refine ⟨jr_iff.mpr (by omega), jr_iff.mpr (by omega), jr_iff.mpr (by omega), jb_iff.mpr (by omega), fun q7 => b88 (cc.mpr ⟨q1, q2, by omega, Or.inr q7⟩), fun q7 => no (fun w => ?_)⟩
        have := (cc.mp w).2.2.2
        omega
      · rw [if_pos rfl]
        exact no (fun w => q2 (cc.mp w).2.1)
    · rw [if_pos rfl]
      exact no (fun w => q1 (cc.mp w).1)
  · rw [if_neg hk, if_pos rfl]
    exact no (fun w => hk w.1)
