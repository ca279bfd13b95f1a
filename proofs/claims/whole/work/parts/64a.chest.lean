set_option maxHeartbeats 4000000
set_option maxRecDepth 100000
/-! the chest of the class: sums, fits, all matched -/
def sW (W : Nat → Int) (h : Nat) : Nat → Int
  | 0 => 0
  | n + 1 => sW W h n + jc2.getD (W (12 * h + n)).toNat 0
theorem jc2_b : ∀ n, n < 6 → 1 ≤ jc2.getD n 0 ∧ jc2.getD n 0 ≤ 240000 := by decide
theorem sW_b {g lo : Int} {P W S : Nat → Int} (ok : fOk g lo P W S) {h : Nat} (hh : h < 20) : ∀ n, n ≤ 12 → 0 ≤ sW W h n ∧ sW W h n ≤ 240000 * (n : Nat)
  | 0, _ => ⟨Int.le_refl 0, Int.le_refl 0⟩
  | n + 1, hn => by
    have ih := sW_b ok hh n (by omega)
    have w := (ok.2.2.2 (12 * h + n) (by omega)).2
    have b := jc2_b (W (12 * h + n)).toNat (by omega)
    show 0 ≤ sW W h n + jc2.getD (W (12 * h + n)).toNat 0 ∧ sW W h n + jc2.getD (W (12 * h + n)).toNat 0 ≤ _
    omega
theorem w_worthOf {N : Nat} (hN : 5000 ≤ N) {g lo : Int} {P W S : Nat → Int} (ok : fOk g lo P W S) {h : Nat} (hh : h < 20) : wp (iChest_worthOf N h S W) (fun r => r = if 0 < S h then sW W h (S h).toNat else -1) := by
  have eh : (h : Int).toNat = h := rfl
  have sb := ok.2.2.1 h hh
  unfold iChest_worthOf
  rw [wp_bd1, w_isThere hh]
  refine ⟨fun hs => ?_, fun hs => ?_⟩
  · rw [if_neg (by decide), if_pos hs]
    unfold iChest_worthOf_b14
    refine wp_zlp2 (fun (k : Nat) (x2 x3 : Int) => ∃ n : Nat, x3 = n ∧ (n : Int) + k = S h ∧ x2 = sW W h n) ?_ N (S h).toNat 0 0 (by omega) ⟨0, rfl, by omega, rfl⟩
    intro self k x2 x3 ⟨n, e1, e2, e3⟩ ih
    subst e1
    unfold iChest_worthOf_b14_F
    rw [wp_gd, wp_ite, eh]
    refine ⟨jb_iff.mpr (by omega), fun hle => ?_, fun hgt => ?_⟩
    · rw [wp_some, e3, show (S h).toNat = n by omega]
    · have w := (ok.2.2.2 (12 * h + n) (by omega)).2
      have b := jc2_b (W (12 * h + n)).toNat (by omega)
      have s := sW_b ok hh n (by omega)
      have ex : ((h : Int) * 12 + n).toNat = 12 * h + n := by omega
      simp only [wp_gd, jb_iff, jr_iff, ex]
      exact ⟨by omega, by omega, by omega, by omega, by omega, by omega, ih (k - 1) _ _ (by omega) ⟨n + 1, by omega, by omega, by rw [e3]; rfl⟩⟩
  · rw [if_pos rfl, wp_some, if_neg hs]
theorem w_M_sumOf {N : Nat} (hN : 5000 ≤ N) {g lo : Int} {P W S pe : Nat → Int} (ok : fOk g lo P W S) (hpe : ∀ n, n < 6 → pe n = jc2.getD n 0) {h : Nat} (hh : h < 20) : wp (iM_sumOf N h W S pe) (fun r => r = sW W h (S h).toNat) := by
  have eh : (h : Int).toNat = h := rfl
  have sb := ok.2.2.1 h hh
  unfold iM_sumOf iM_sumOf_b4
  refine wp_zlp2 (fun (k : Nat) (x2 x3 : Int) => ∃ n : Nat, x3 = n ∧ (n : Int) + k = S h ∧ x2 = sW W h n) ?_ N (S h).toNat 0 0 (by omega) ⟨0, rfl, by omega, rfl⟩
  intro self k x2 x3 ⟨n, e1, e2, e3⟩ ih
  subst e1
  unfold iM_sumOf_b4_F
  rw [wp_gd, wp_ite, eh]
  refine ⟨jb_iff.mpr (by omega), fun hle => ?_, fun hgt => ?_⟩
  · rw [wp_some, e3, show (S h).toNat = n by omega]
  · have w := (ok.2.2.2 (12 * h + n) (by omega)).2
    have b := jc2_b (W (12 * h + n)).toNat (by omega)
    have s := sW_b ok hh n (by omega)
    have ex : ((12 : Int) * h + n).toNat = 12 * h + n := by omega
    simp only [wp_gd, jb_iff, jr_iff, ex, hpe (W (12 * h + n)).toNat (by omega)]
    exact ⟨by omega, by omega, by omega, by omega, by omega, by omega, ih (k - 1) _ _ (by omega) ⟨n + 1, by omega, by omega, by rw [e3]; rfl⟩⟩
/-- the fits kept are right -/
def cFit (g lo : Int) (P W S fi : Nat → Int) : Prop := ∀ i j, i < 10 → j < 10 → fi (10 * i + j) = -2 ∨ fi (10 * i + j) = fE g lo P W i (10 + j) (S i).toNat (S (10 + j)).toNat
theorem w_fitOfK {N : Nat} (hN : 5000 ≤ N) {g lo : Int} {P W S ab ro fi : Nat → Int} (ok : fOk g lo P W S) (hf : cFit g lo P W S fi) {i j : Nat} (hi : i < 10) (hj : j < 10) : wp (iChest_fitOf N i j g lo ab fi P ro S W) (fun r => r.1 = (if 0 < S i ∧ 0 < S (10 + j) then fE g lo P W i (10 + j) (S i).toNat (S (10 + j)).toNat else -1) ∧ cFit g lo P W S r.2.2.1) := by
  have ex : ((i : Int) * 10 + j).toNat = 10 * i + j := by omega
  have e10 : (10 : Int) + j = ((10 + j : Nat) : Int) := by omega
  have sa := ok.2.2.1 i (by omega)
  have sb := ok.2.2.1 (10 + j) (by omega)
  have bE := fE_b ok (a := i) (b := 10 + j) (by omega) (by omega) (S i).toNat (by omega) (S (10 + j)).toNat (by omega)
  unfold iChest_fitOf
  rw [wp_bd1, w_isStick]
  refine ⟨fun _ => ?_, fun n => by omega⟩
  rw [if_neg (by decide), wp_bd1, w_isStick]
  refine ⟨fun _ => ?_, fun n => by omega⟩
  rw [if_neg (by decide), wp_bd1, w_isThere (by omega)]
  refine ⟨fun h1 => ?_, fun h1 => ?_⟩
  · rw [if_neg (by decide), wp_gd, wp_bd1, e10, w_isThere (by omega)]
    refine ⟨jr_iff.mpr (by omega), fun h2 => ?_, fun h2 => ?_⟩
    · rw [if_neg (by decide), if_pos (show 0 < S i ∧ 0 < S (10 + j) from ⟨h1, h2⟩), wp_gd, wp_gd, wp_gd, wp_ite, ex]
      refine ⟨jr_iff.mpr (by omega), jr_iff.mpr (by omega), jb_iff.mpr (by omega), fun hu => ?_, fun hk => ?_⟩
      · rw [wp_bd3]
        refine wp_mono (w_leastCost hN ok (a := i) (b := 10 + j) (by omega) (by omega)) (fun r hr => ?_)
        unfold iChest_fitOf_b68
        rw [wp_gd, wp_some, ex]
        refine ⟨jb_iff.mpr (by omega), ?_, fun i2 j2 hi2 hj2 => ?_⟩
        · show va_up fi (10 * i + j) r.1 (10 * i + j) = _
          rw [va_up_self, hr]
        · show va_up fi (10 * i + j) r.1 (10 * i2 + j2) = -2 ∨ va_up fi (10 * i + j) r.1 (10 * i2 + j2) = _
          by_cases e : i2 = i ∧ j2 = j
          · rw [e.1, e.2, va_up_self]
            exact Or.inr hr
          · rw [va_up_ne _ _ (by omega)]
            exact hf i2 j2 hi2 hj2
      · unfold iChest_fitOf_b68
        rw [wp_gd, wp_some, ex]
        refine ⟨jb_iff.mpr (by omega), ?_, hf⟩
        rcases hf i j hi hj with x | x
        · exact absurd x hk
        · exact x
    · rw [if_pos rfl, wp_some, if_neg (show ¬ (0 < S i ∧ 0 < S (10 + j)) from fun k => h2 k.2)]
      exact ⟨rfl, hf⟩
  · rw [if_pos rfl, wp_some, if_neg (show ¬ (0 < S i ∧ 0 < S (10 + j)) from fun k => h1 k.1)]
    exact ⟨rfl, hf⟩
theorem w_allow {N : Nat} (hN : 5000 ≤ N) {C : Nat → Nat → Int} {r j : Nat} {f : Int} (hr : r < 10) (hj : j < 10) (hf : 0 ≤ f ∧ f ≤ 500) : wp (iMatcher_allow N r j f C) (fun q => q = va_up C (r + 1) (va_up (C (r + 1)) (j + 1) (f * 25937424601 - 129738997854202 + ((j : Int) - 10) * 11 ^ (9 - r)))) := by
  unfold iMatcher_allow
  rw [wp_bd1, w_isStick]
  refine ⟨fun _ => ?_, fun n => by omega⟩
  rw [if_neg (by decide), wp_bd1, w_isStick]
  refine ⟨fun _ => ?_, fun n => by omega⟩
  rw [if_neg (by decide), wp_gd, wp_gd]
  refine ⟨jr_iff.mpr (by omega), jr_iff.mpr (by omega), ?_⟩
  unfold iMatcher_allow_b27
  have pw : ∀ n, n < 10 → -23579476910 ≤ ((j : Int) - 10) * 11 ^ n ∧ ((j : Int) - 10) * 11 ^ n ≤ 0 := fun n hn => by
    have c := pow11 n hn
    have m1 : ((j : Int) - 10) * 11 ^ n ≤ 0 := Int.mul_nonpos_of_nonpos_of_nonneg (by omega) (by omega)
    have x := Int.mul_le_mul_of_nonneg_right (show -10 ≤ (j : Int) - 10 by omega) (show (0 : Int) ≤ 11 ^ n by omega)
    omega
  refine wp_zlp2 (fun (k : Nat) (x4 x6 : Int) => ∃ n : Nat, x6 = ((r + 1 + n : Nat) : Int) ∧ n + k = 9 - r ∧ x4 = ((j : Int) - 10) * 11 ^ n) ?_ N (9 - r) _ _ (by omega) ⟨0, by omega, by omega, by show (j : Int) - 10 = ((j : Int) - 10) * 1; omega⟩
  intro self k x4 x6 ⟨n, e1, e2, e3⟩ ih
  subst e1
  have er : ((r : Int) + 1).toNat = r + 1 := by omega
  have ej : ((j : Int) + 1).toNat = j + 1 := by omega
  have b := pw n (by omega)
  rw [← e3] at b
  unfold iMatcher_allow_b27_F
  cases k with
  | zero =>
    have en : n = 9 - r := by omega
    subst en
    rw [if_pos (by omega)]
    simp only [wp_gd, wp_some, jb_iff, jr_iff, jR_iff, er, ej]
    refine ⟨by omega, by omega, by omega, by omega, by omega, by omega, by omega, ?_⟩
    rw [e3]
  | succ k =>
    have b2 := pw (n + 1) (by omega)
    have ep : ((j : Int) - 10) * 11 ^ (n + 1) = x4 * 11 := by rw [e3, Int.pow_succ, Int.mul_assoc]
    rw [ep] at b2
    rw [if_neg (by omega), wp_gd, wp_gd]
    exact ⟨jR_iff.mpr (by omega), jr_iff.mpr (by omega), ih k _ _ (Nat.lt_succ_self k) ⟨n + 1, by omega, by omega, ep.symm⟩⟩
theorem w_foilOf {m : Nat → Int} {a : Int} {Q : Int → Prop} : wp (iMatcher_foilOf a m) Q ↔ ((0 ≤ a ∧ a < 10) → Q (m a.toNat)) ∧ (¬ (0 ≤ a ∧ a < 10) → Q (-1)) := by
  unfold iMatcher_foilOf
  rw [wp_bd1, w_isStick]
  simp only [wp_ite, wp_gd, wp_some, jb_iff]
  constructor
  · intro k
    exact ⟨fun h => ((k.1 h).2 (by decide)).2, fun h => (k.2 h).1 trivial⟩
  · intro k
    exact ⟨fun h => ⟨fun q => absurd q (by decide), fun _ => ⟨by omega, k.1 h⟩⟩, fun h => ⟨fun _ => k.2 h, fun q => absurd trivial q⟩⟩
/-- all matched: the mates are the best, and what a good tally is worth -/
def cM (g lo lim : Int) (P W S mt gw : Nat → Int) : Prop := mVal lim (mF g lo P W S) mt ∧ (∀ m2, mR lim (mF g lo P W S) m2 → ∀ r, r < 10 → mt r = m2 r) ∧ ∀ r, r < 10 → gw r = if mt r = -1 then 0 else sW W r (S r).toNat
def hCp (lim : Int) (F : Nat → Nat → Int) (C : Nat → Nat → Int) (r j : Nat) : Prop := (∀ r2 j2, r2 < 10 → j2 < 10 → C (r2 + 1) (j2 + 1) = if (r2 < r ∨ r2 = r ∧ j2 < j) ∧ F r2 j2 ≤ lim then F r2 j2 * 25937424601 - 129738997854202 + ((j2 : Int) - 10) * 11 ^ (9 - r2) else 0) ∧ (∀ r j, r < 11 → 11 ≤ j → j < 21 → C r j = 0) ∧ (∀ j, j < 21 → C 0 j = 0) ∧ ∀ r, r < 11 → C r 0 = 0
theorem w_matchAll {N : Nat} (hN : 5000 ≤ N) {g lo lim isM : Int} {P W S ab fi gw cf cp ga re ma ro rp rw_ : Nat → Int} {C : Nat → Nat → Int} (ok : fOk g lo P W S) (hl : 0 ≤ lim ∧ lim ≤ 500) (hf : cFit g lo P W S fi) (hM : isM = 0 ∨ isM = 1 ∧ cM g lo lim P W S ma gw) : wp (iChest_matchAll N g isM lim lo ab fi gw cf cp C ga re ma ro rp P rw_ S W) (fun r => (r.1 = 1 ∧ cFit g lo P W S r.2.2.1 ∧ cM g lo lim P W S r.2.2.2.2.2.2.2.2.2.1 r.2.2.2.1) ∧ (isM = 1 → r.2.2.2.2.2.2.2.2.2.1 = ma ∧ r.2.2.2.1 = gw)) := by
  have mok := mF_ok ok hl
  unfold iChest_matchAll
  rw [wp_ite]
  refine ⟨fun h0 => ?_, fun h1 => ?_⟩
  · refine wp_mono ?_ (fun r hr => ⟨hr, fun e => by omega⟩)
    rw [wp_bd4]
    unfold iMatcher_begin iMatcher_begin_b2
    refine wp_zlp2 (fun (k : Nat) (x1 : Int) (C : Nat → Nat → Int) => ∃ r : Nat, x1 = r ∧ r + k = 11 ∧ ∀ r2 j, r2 < r → C r2 j = 0) ?_ N 11 0 C (by omega) ⟨0, rfl, rfl, fun r2 j h => by omega⟩
    intro self k x1 C ⟨r, e1, e2, e3⟩ ih
    subst e1
    have er : (r : Int).toNat = r := rfl
    unfold iMatcher_begin_b2_F
    cases k with
    | succ k =>
      rw [if_neg (by omega), wp_gd, wp_gd, er]
      refine ⟨jb_iff.mpr (by omega), jr_iff.mpr (by omega), ih k _ _ (Nat.lt_succ_self k) ⟨r + 1, by omega, by omega, fun r2 j hr => ?_⟩⟩
      by_cases e : r2 = r
      · rw [e, va_up_self]
      · rw [va_up_ne _ _ e]
        exact e3 r2 j (by omega)
    | zero =>
      rw [if_pos (by omega)]
      show wp (iMatcher_begin_b24 N cp C ro rp) _
      unfold iMatcher_begin_b24
      rw [wp_some]
      show wp (iChest_matchAll_b17 N g lim lo P S W isM gw cf (fun _ => 0) ga re ma (fun _ => 0) (fun _ => 0) _ N 0 ab fi C rw_) _
      unfold iChest_matchAll_b17
      have C0 : hCp lim (mF g lo P W S) C 0 0 := by
        refine ⟨fun r2 j2 a b => ?_, fun r j a b c => e3 r j (by omega), fun j a => e3 0 j (by omega), fun r a => e3 r 0 (by omega)⟩
        rw [e3 _ _ (by omega), if_neg (by omega)]
      refine wp_zlp5 (fun (k : Nat) (x1 : Int) (ab fi : Nat → Int) (C : Nat → Nat → Int) (ro : Nat → Int) => ∃ r : Nat, x1 = r ∧ r + k = 10 ∧ cFit g lo P W S fi ∧ hCp lim (mF g lo P W S) C r 0) ?_ N 10 0 ab fi C rw_ (by omega) ⟨0, rfl, rfl, hf, C0⟩
      intro self2 k x1 ab2 fi2 C2 ro2 ⟨r, f1, f2, f3, f4⟩ ih2
      subst f1
      unfold iChest_matchAll_b17_F
      cases k with
      | zero =>
        have r10 : r = 10 := by omega
        subst r10
        rw [if_pos (by omega)]
        show wp (iChest_matchAll_b73 N g lim lo P S W isM ab2 fi2 gw cf (fun _ => 0) C2 ga re ma (fun _ => 0) (fun _ => 0) ro2) _
        unfold iChest_matchAll_b73
        have hc : hC lim (mF g lo P W S) C2 := by
          refine ⟨fun r j a b => ?_, f4.2.1, f4.2.2.1, f4.2.2.2⟩
          rw [f4.1 r j a b]
          by_cases k : mF g lo P W S r j ≤ lim
          · rw [if_pos ⟨Or.inl a, k⟩, if_pos k]
          · rw [if_neg (fun q => k q.2), if_neg k]
        rw [wp_bd7]
        refine wp_mono (w_solve hN (hC_K mok hc)) (fun q hq => ?_)
        obtain ⟨b1, b2⟩ := hM_best mok hc hq
        unfold iChest_matchAll_b82
        refine wp_zlp2 (fun (k : Nat) (x1 : Int) (gw : Nat → Int) => ∃ r : Nat, x1 = r ∧ r + k = 10 ∧ ∀ r2, r2 < r → gw r2 = if q.2.2.2.2.1 r2 = -1 then 0 else sW W r2 (S r2).toNat) ?_ N 10 0 gw (by omega) ⟨0, rfl, rfl, fun r2 h => by omega⟩
        intro self3 k3 x1 gw3 ⟨r, g1, g2, g3⟩ ih3
        subst g1
        have er : (r : Int).toNat = r := rfl
        unfold iChest_matchAll_b82_F
        cases k3 with
        | zero =>
          have r10 : r = 10 := by omega
          subst r10
          rw [if_pos (by omega), wp_some]
          exact ⟨rfl, f3, b1, fun m2 hm2 => hM_R mok hc hq hm2, g3⟩
        | succ k3 =>
          rw [if_neg (by omega), wp_bd1, w_foilOf]
          refine ⟨fun _ => ?_, fun n => by omega⟩
          rw [er]
          have fin : ∀ x : Int, x = (if q.2.2.2.2.1 r = -1 then 0 else sW W r (S r).toNat) → wp (iChest_matchAll_b114 N g lim lo P S W self3 r r x isM ab2 fi2 gw3 q.1 q.2.1 C2 q.2.2.1 q.2.2.2.1 q.2.2.2.2.1 q.2.2.2.2.2.1 q.2.2.2.2.2.2 ro2) (fun r => r.1 = 1 ∧ cFit g lo P W S r.2.2.1 ∧ cM g lo lim P W S r.2.2.2.2.2.2.2.2.2.1 r.2.2.2.1) := fun x hx => by
            unfold iChest_matchAll_b114
            rw [wp_gd, wp_gd, er]
            refine ⟨jb_iff.mpr (by omega), jr_iff.mpr (by omega), ih3 k3 _ _ (Nat.lt_succ_self k3) ⟨r + 1, by omega, by omega, fun r2 hr2 => ?_⟩⟩
            by_cases e : r2 = r
            · rw [e, va_up_self, hx]
            · rw [va_up_ne _ _ e]
              exact g3 r2 (by omega)
          rw [wp_ite]
          refine ⟨fun hm => fin 0 (by rw [if_pos hm]), fun hm => ?_⟩
          rw [wp_bd1]
          refine wp_mono (w_worthOf hN ok (h := r) (by omega)) (fun x hx => fin x ?_)
          rw [hx, if_neg hm]
          rcases b1.1 r (by omega) with y | ⟨j, y1, y2, y3⟩
          · exact absurd y hm
          · unfold mF at y3
            by_cases c : 0 < S r ∧ 0 < S (10 + j)
            · rw [if_pos c.1]
            · rw [if_neg c] at y3
              omega
      | succ k =>
        rw [if_neg (by omega)]
        unfold iChest_matchAll_b25
        refine wp_zlp5 (fun (k : Nat) (x2 : Int) (ab fi : Nat → Int) (C : Nat → Nat → Int) (ro : Nat → Int) => ∃ j : Nat, x2 = j ∧ j + k = 10 ∧ cFit g lo P W S fi ∧ hCp lim (mF g lo P W S) C r j) ?_ N 10 0 ab2 fi2 C2 ro2 (by omega) ⟨0, rfl, rfl, f3, f4⟩
        intro self3 k3 x2 ab3 fi3 C3 ro3 ⟨j, g1, g2, g3, g4⟩ ih3
        subst g1
        unfold iChest_matchAll_b25_F
        cases k3 with
        | zero =>
          have j10 : j = 10 := by omega
          subst j10
          rw [if_pos (by omega)]
          show wp (iChest_matchAll_b67 N g lim lo P S W self2 _ r isM ab3 fi3 gw cf _ C3 ga re ma _ _ ro3) _
          unfold iChest_matchAll_b67
          rw [wp_gd]
          refine ⟨jr_iff.mpr (by omega), ih2 k _ _ _ _ _ (Nat.lt_succ_self k) ⟨r + 1, by omega, by omega, g3, fun r2 j2 a b => ?_, g4.2⟩⟩
          rw [g4.1 r2 j2 a b]
          by_cases c : mF g lo P W S r2 j2 ≤ lim
          · by_cases d : r2 < r ∨ r2 = r ∧ j2 < 10
            · rw [if_pos ⟨d, c⟩, if_pos ⟨by omega, c⟩]
            · rw [if_neg (fun q => d q.1), if_neg (fun q => d (by have := q.1; omega))]
          · rw [if_neg (fun q => c q.2), if_neg (fun q => c q.2)]
        | succ k3 =>
          have keep : ∀ (C4 : Nat → Nat → Int), (∀ r2 j2, r2 < 10 → j2 < 10 → ¬ (r2 = r ∧ j2 = j) → C4 (r2 + 1) (j2 + 1) = C3 (r2 + 1) (j2 + 1)) → C4 (r + 1) (j + 1) = (if mF g lo P W S r j ≤ lim then mF g lo P W S r j * 25937424601 - 129738997854202 + ((j : Int) - 10) * 11 ^ (9 - r) else 0) → ((∀ r j, r < 11 → 11 ≤ j → j < 21 → C4 r j = 0) ∧ (∀ j, j < 21 → C4 0 j = 0) ∧ ∀ r, r < 11 → C4 r 0 = 0) → hCp lim (mF g lo P W S) C4 r (j + 1) := fun C4 h1 h2 h3 => by
            refine ⟨fun r2 j2 a b => ?_, h3⟩
            by_cases e : r2 = r ∧ j2 = j
            · rw [e.1, e.2, h2]
              by_cases c : mF g lo P W S r j ≤ lim
              · rw [if_pos c, if_pos ⟨by omega, c⟩]
              · rw [if_neg c, if_neg (fun q => c q.2)]
            · rw [h1 r2 j2 a b e, g4.1 r2 j2 a b]
              by_cases c : mF g lo P W S r2 j2 ≤ lim
              · by_cases d : r2 < r ∨ r2 = r ∧ j2 < j
                · rw [if_pos ⟨d, c⟩, if_pos ⟨by omega, c⟩]
                · rw [if_neg (fun q => d q.1), if_neg (fun q => d (by have := q.1; omega))]
              · rw [if_neg (fun q => c q.2), if_neg (fun q => c q.2)]
          have z0 : C3 (r + 1) (j + 1) = 0 := by
            rw [g4.1 r j (by omega) (by omega), if_neg (by omega)]
          rw [if_neg (by omega), wp_bd4]
          refine wp_mono (w_fitOfK hN ok g3 (i := r) (j := j) (by omega) (by omega)) (fun q ⟨q1, q2⟩ => ?_)
          have sa := ok.2.2.1 r (by omega)
          have sb := ok.2.2.1 (10 + j) (by omega)
          have bE := fE_b ok (a := r) (b := 10 + j) (by omega) (by omega) (S r).toNat (by omega) (S (10 + j)).toNat (by omega)
          have hFv : mF g lo P W S r j = if 0 < S r ∧ 0 < S (10 + j) then fE g lo P W r (10 + j) (S r).toNat (S (10 + j)).toNat else 100000000 := rfl
          have skip : ¬ mF g lo P W S r j ≤ lim → wp (self3 ((j : Int) + 1) q.2.1 q.2.2.1 C3 q.2.2.2) (fun r => r.1 = 1 ∧ cFit g lo P W S r.2.2.1 ∧ cM g lo lim P W S r.2.2.2.2.2.2.2.2.2.1 r.2.2.2.1) := fun hn => ih3 k3 _ _ _ _ _ (Nat.lt_succ_self k3) ⟨j + 1, by omega, by omega, q2, keep C3 (fun _ _ _ _ _ => rfl) (by rw [z0, if_neg hn]) g4.2⟩
          rw [wp_ite]
          by_cases c : 0 < S r ∧ 0 < S (10 + j)
          · rw [if_pos c] at q1 hFv
            refine ⟨fun e => by omega, fun _ => ?_⟩
            rw [wp_ite]
            refine ⟨fun hgt => ?_, fun hle => ?_⟩
            · rw [wp_gd]
              exact ⟨jr_iff.mpr (by omega), skip (by omega)⟩
            · rw [wp_bd1, q1]
              refine wp_mono (w_allow hN (r := r) (j := j) (by omega) (by omega) (by omega)) (fun C4 hC4 => ?_)
              subst hC4
              rw [wp_gd]
              refine ⟨jr_iff.mpr (by omega), ih3 k3 _ _ _ _ _ (Nat.lt_succ_self k3) ⟨j + 1, by omega, by omega, q2, keep _ (fun r2 j2 a b e => ?_) ?_ ⟨fun r2 j2 a b c2 => ?_, fun j2 a => ?_, fun r2 a => ?_⟩⟩⟩
              · by_cases e2 : r2 = r
                · rw [e2, va_up_self, va_up_ne _ _ (by omega)]
                · rw [va_up_ne _ _ (by omega)]
              · rw [va_up_self, va_up_self, hFv, if_pos (by omega)]
              · by_cases e2 : r2 = r + 1
                · rw [e2, va_up_self, va_up_ne _ _ (by omega)]
                  exact g4.2.1 (r + 1) j2 (by omega) b c2
                · rw [va_up_ne _ _ e2]
                  exact g4.2.1 r2 j2 a b c2
              · rw [va_up_ne _ _ (by omega)]
                exact g4.2.2.1 j2 a
              · by_cases e2 : r2 = r + 1
                · rw [e2, va_up_self, va_up_ne _ _ (by omega)]
                  exact g4.2.2.2 (r + 1) (by omega)
                · rw [va_up_ne _ _ e2]
                  exact g4.2.2.2 r2 a
          · rw [if_neg c] at q1 hFv
            refine ⟨fun _ => ?_, fun n => absurd q1 n⟩
            rw [wp_gd]
            exact ⟨jr_iff.mpr (by omega), skip (by omega)⟩
  · rcases hM with x | ⟨x, y⟩
    · exact absurd x h1
    · rw [wp_some]
      exact ⟨⟨x, hf, y⟩, fun _ => ⟨rfl, rfl⟩⟩
