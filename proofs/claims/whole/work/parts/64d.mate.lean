set_option maxHeartbeats 4000000
set_option maxRecDepth 100000
/-! mate, matched, all agree -/
theorem w_matches {N : Nat} (hN : 5000 ≤ N) {g lo lim : Int} {P W S be co ft mt : Nat → Int} (h : fOk g lo P W S) (hl : 0 ≤ lim ∧ lim ≤ 500) : wp (iM_matches N g lim lo be co P W S ft mt) (fun r => (∀ i j, i < 10 → j < 10 → r.2.2.1 (10 * i + j) = mF g lo P W S i j) ∧ mR lim (mF g lo P W S) r.2.2.2) :=
  w_mfits hN h (fun co2 ft2 hft => wp_mono (w_mtable hN (mF_ok h hl) hft) (fun r ⟨r1, r2⟩ => ⟨by rw [r1]; exact hft, r2⟩))
theorem ag_mate {N : Nat} (hN : 5000 ≤ N) {n a ch isM g lo lim : Int} {P W S ab fi gw cf cp ga re ma ro rp rw_ be co ft mt : Nat → Int} {C : Nat → Nat → Int} (h : IH n g lo lim ch isM P W S fi gw ma) : wp (iK_mate N a g isM lim lo ab fi gw cf cp C ga re ma ro rp P rw_ S W) (fun r => wp (iM_mate N a g lim lo be co P W S ft mt) (fun q => r.1 = q.1 ∧ IH n g lo lim ch r.2.1 P W S r.2.2.2.1 r.2.2.2.2.1 r.2.2.2.2.2.2.2.2.2.2.1 ∧ (isM = 1 → r.2.1 = 1 ∧ r.2.2.2.2.2.2.2.2.2.2.1 = ma ∧ r.2.2.2.2.1 = gw))) := by
  have hh := h
  obtain ⟨h1, h2, h3, h4, h5, h6⟩ := h
  unfold iK_mate
  rw [wp_bd1, w_isStick]
  refine ⟨fun ha => ?_, fun ha => ?_⟩
  · rw [if_neg (by decide), wp_bd14]
    unfold iChest_mateOf
    rw [wp_bd13]
    refine wp_mono (w_matchAll hN h1 h2 h3 h4) (fun r ⟨⟨r1, r2, r3⟩, r4⟩ => ?_)
    rw [wp_bd1, w_foilOf]
    refine ⟨fun _ => ?_, fun w => absurd ha w⟩
    rw [wp_some, wp_some]
    unfold iM_mate
    rw [wp_bd1, w_isIn]
    refine ⟨fun _ => ?_, fun w => absurd (show 0 ≤ a ∧ a ≤ 9 by omega) w⟩
    rw [if_neg (by decide), wp_bd4]
    refine wp_mono (w_matches hN h1 h2) (fun q ⟨q1, q2⟩ => ?_)
    rw [wp_gd, wp_some]
    exact ⟨jb_iff.mpr (by omega), r3.2.1 _ q2 a.toNat (by omega), ⟨h1, h2, r2, Or.inr ⟨r1, r3⟩, h5, h6⟩, fun e => ⟨r1, (r4 e).1, (r4 e).2⟩⟩
  · rw [if_pos rfl, wp_some]
    unfold iM_mate
    rw [wp_bd1, w_isIn]
    refine ⟨fun w => absurd (show 0 ≤ a ∧ a < 10 by omega) ha, fun _ => ?_⟩
    rw [if_pos rfl, wp_some]
    exact ⟨rfl, hh, fun e => ⟨e, rfl, rfl⟩⟩
def mCnt (mt : Nat → Int) : Nat → Int
  | 0 => 0
  | n + 1 => mCnt mt n + (if mt n = -1 then 0 else 1)
def mSum (F : Nat → Nat → Int) (mt : Nat → Int) : Nat → Int
  | 0 => 0
  | n + 1 => mSum F mt n + (if mt n = -1 then 0 else F n (mt n).toNat)
theorem mCnt_b (mt : Nat → Int) : ∀ n, 0 ≤ mCnt mt n ∧ mCnt mt n ≤ n
  | 0 => ⟨Int.le_refl 0, Int.le_refl 0⟩
  | n + 1 => by
    have ih := mCnt_b mt n
    show 0 ≤ mCnt mt n + _ ∧ mCnt mt n + _ ≤ _
    split <;> omega
theorem mSum_b {lim : Int} {F : Nat → Nat → Int} {mt : Nat → Int} (hok : mOk lim F) (h : mVal lim F mt) : ∀ n, n ≤ 10 → 0 ≤ mSum F mt n ∧ mSum F mt n ≤ 500 * (n : Nat)
  | 0, _ => ⟨Int.le_refl 0, Int.le_refl 0⟩
  | n + 1, hn => by
    have ih := mSum_b hok h n (by omega)
    show 0 ≤ mSum F mt n + _ ∧ mSum F mt n + _ ≤ _
    rcases h.1 n (by omega) with e | ⟨j, a, b, c⟩
    · rw [if_pos e]
      omega
    · have := hok.2 n j (by omega) a
      have := hok.1
      rw [if_neg (by omega), show (mt n).toNat = j by omega]
      omega
theorem ag_matched {N : Nat} (hN : 5000 ≤ N) {n a ch isM g lo lim : Int} {P W S ab fi gw cf cp ga re ma ro rp rw_ be co ft mt : Nat → Int} {C : Nat → Nat → Int} (h : IH n g lo lim ch isM P W S fi gw ma) : wp (iK_matched N a g isM lim lo ab fi gw cf cp C ga re ma ro rp P rw_ S W) (fun r => wp (iM_matched N a g lim lo be co P W S ft mt) (fun q => r.1 = q.1 ∧ IH n g lo lim ch r.2.1 P W S r.2.2.2.1 r.2.2.2.2.1 r.2.2.2.2.2.2.2.2.2.2.1 ∧ (isM = 1 → r.2.1 = 1 ∧ r.2.2.2.2.2.2.2.2.2.2.1 = ma ∧ r.2.2.2.2.1 = gw))) := by
  have hh := h
  obtain ⟨h1, h2, h3, h4, h5, h6⟩ := h
  have mok := mF_ok h1 h2
  -- the reference
  have hm : ∀ Q : R_iM_matched → Prop, a = 0 ∨ a = 1 → (∀ m2 be2 co2 ft2, mR lim (mF g lo P W S) m2 → Q (if a = 0 then mCnt m2 10 else mSum (mF g lo P W S) m2 10, be2, co2, ft2, m2)) → wp (iM_matched N a g lim lo be co P W S ft mt) Q := fun Q ha q1 => by
    have go : wp (iM_matched_b11 N a g lim lo P W S be co ft mt) Q := by
      unfold iM_matched_b11
      rw [wp_bd4]
      refine wp_mono (w_matches hN h1 h2) (fun q ⟨r1, r2⟩ => ?_)
      obtain ⟨σ, s0, s1, s2⟩ := r2
      have val := mR_val s0 s2
      unfold iM_matched_b22
      refine wp_zlp3 (fun (k : Nat) (x2 x3 x4 : Int) => ∃ i : Nat, x4 = i ∧ i + k = 10 ∧ x2 = mCnt q.2.2.2 i ∧ x3 = mSum (mF g lo P W S) q.2.2.2 i) ?_ N 10 0 0 0 (by omega) ⟨0, rfl, rfl, rfl, rfl⟩
      intro self k x2 x3 x4 ⟨i, e1, e2, e3, e4⟩ ih
      subst e1
      have ei : (i : Int).toNat = i := rfl
      have b1 := mCnt_b q.2.2.2 i
      have b2 := mSum_b mok val i (by omega)
      unfold iM_matched_b22_F
      cases k with
      | zero =>
        have i10 : i = 10 := by omega
        subst i10
        rw [if_pos (by omega)]
        show wp (iM_matched_b73 N a g lim lo P W S x2 x3 q.1 q.2.1 q.2.2.1 q.2.2.2) Q
        unfold iM_matched_b73
        have := q1 q.2.2.2 q.1 q.2.1 q.2.2.1 ⟨σ, s0, s1, s2⟩
        rw [wp_ite, wp_some, wp_some]
        refine ⟨fun e => ?_, fun e => ?_⟩
        · rw [if_pos e] at this
          rw [e3]
          exact this
        · rw [if_neg e] at this
          rw [e4]
          exact this
      | succ k =>
        have c1 : mCnt q.2.2.2 (i + 1) = mCnt q.2.2.2 i + (if q.2.2.2 i = -1 then 0 else 1) := rfl
        have c2 : mSum (mF g lo P W S) q.2.2.2 (i + 1) = mSum (mF g lo P W S) q.2.2.2 i + (if q.2.2.2 i = -1 then 0 else mF g lo P W S i (q.2.2.2 i).toNat) := rfl
        rw [if_neg (by omega), wp_gd, wp_ite, ei]
        refine ⟨jb_iff.mpr (by omega), fun e => ?_, fun e => ?_⟩
        · rw [if_pos e] at c1 c2
          rw [wp_gd]
          exact ⟨jr_iff.mpr (by omega), ih k _ _ _ (Nat.lt_succ_self k) ⟨i + 1, by omega, by omega, by omega, by omega⟩⟩
        · rw [if_neg e] at c1 c2
          rcases val.1 i (by omega) with x | ⟨j, y1, y2, y3⟩
          · exact absurd x e
          · have ex : ((10 : Int) * i + q.2.2.2 i).toNat = 10 * i + j := by omega
            have ej : (q.2.2.2 i).toNat = j := by omega
            have bF := mok.2 i j (by omega) y1
            have bl := mok.1
            rw [ej] at c2
            simp only [wp_gd, jb_iff, jr_iff, ex, r1 i j (by omega) y1]
            exact ⟨by omega, by omega, by omega, by omega, by omega, by omega, ih k _ _ _ (Nat.lt_succ_self k) ⟨i + 1, by omega, by omega, by omega, by omega⟩⟩
    unfold iM_matched
    rw [wp_ite]
    refine ⟨fun _ => go, fun e => ?_⟩
    rw [if_pos (by omega)]
    exact go
  have eqs : ∀ (m1 m2 : Nat → Int), (∀ r, r < 10 → m1 r = m2 r) → ∀ i, i ≤ 10 → mCnt m1 i = mCnt m2 i ∧ mSum (mF g lo P W S) m1 i = mSum (mF g lo P W S) m2 i := fun m1 m2 he i => by
    induction i with
    | zero => exact fun _ => ⟨rfl, rfl⟩
    | succ i ih =>
      intro hi
      have := ih (by omega)
      show mCnt m1 i + _ = mCnt m2 i + _ ∧ mSum _ m1 i + _ = mSum _ m2 i + _
      rw [this.1, this.2, he i (by omega)]
      exact ⟨rfl, rfl⟩
  unfold iK_matched
  rw [wp_ite]
  refine ⟨fun e0 => ?_, fun e0 => ?_⟩
  · rw [wp_bd14]
    unfold iChest_pairsMatched
    rw [wp_bd13]
    refine wp_mono (w_matchAll hN h1 h2 h3 h4) (fun r ⟨⟨r1, r2, r3⟩, r4⟩ => ?_)
    unfold iChest_pairsMatched_b8
    refine wp_zlp2 (fun (k : Nat) (x1 x2 : Int) => ∃ i : Nat, x2 = i ∧ i + k = 10 ∧ x1 = mCnt r.2.2.2.2.2.2.2.2.2.1 i) ?_ N 10 0 0 (by omega) ⟨0, rfl, rfl, rfl⟩
    intro self k x1 x2 ⟨i, e1, e2, e3⟩ ih
    subst e1
    have ei : (i : Int).toNat = i := rfl
    have b1 := mCnt_b r.2.2.2.2.2.2.2.2.2.1 i
    unfold iChest_pairsMatched_b8_F
    cases k with
    | zero =>
      have i10 : i = 10 := by omega
      subst i10
      rw [if_pos (by omega), wp_some, wp_some]
      refine hm _ (Or.inl e0) (fun m2 be2 co2 ft2 hR => ⟨?_, ⟨h1, h2, r2, Or.inr ⟨r1, r3⟩, h5, h6⟩, fun e => ⟨r1, (r4 e).1, (r4 e).2⟩⟩)
      show x1 = if a = 0 then _ else _
      rw [if_pos e0, e3]
      exact (eqs _ _ (r3.2.1 m2 hR) 10 (Nat.le_refl 10)).1
    | succ k =>
      have c1 : mCnt r.2.2.2.2.2.2.2.2.2.1 (i + 1) = mCnt r.2.2.2.2.2.2.2.2.2.1 i + (if r.2.2.2.2.2.2.2.2.2.1 i = -1 then 0 else 1) := rfl
      rw [if_neg (by omega), wp_bd1, w_foilOf]
      refine ⟨fun _ => ?_, fun w => by omega⟩
      rw [wp_ite, ei]
      refine ⟨fun e => ?_, fun e => ?_⟩
      · rw [if_pos e] at c1
        rw [wp_gd, wp_gd]
        exact ⟨jr_iff.mpr (by omega), jr_iff.mpr (by omega), ih k _ _ (Nat.lt_succ_self k) ⟨i + 1, by omega, by omega, by omega⟩⟩
      · rw [if_neg e] at c1
        rw [wp_gd, wp_gd]
        exact ⟨jr_iff.mpr (by omega), jr_iff.mpr (by omega), ih k _ _ (Nat.lt_succ_self k) ⟨i + 1, by omega, by omega, by omega⟩⟩
  · rw [wp_ite]
    refine ⟨fun e1 => ?_, fun e1 => ?_⟩
    · rw [wp_bd14]
      unfold iChest_fitMatched
      rw [wp_bd13]
      refine wp_mono (w_matchAll hN h1 h2 h3 h4) (fun r ⟨⟨r1, r2, r3⟩, r4⟩ => ?_)
      unfold iChest_fitMatched_b8
      refine wp_zlp5 (fun (k : Nat) (x1 x2 : Int) (ab fi ro : Nat → Int) => ∃ i : Nat, x2 = i ∧ i + k = 10 ∧ x1 = mSum (mF g lo P W S) r.2.2.2.2.2.2.2.2.2.1 i ∧ cFit g lo P W S fi) ?_ N 10 0 0 _ _ _ (by omega) ⟨0, rfl, rfl, rfl, r2⟩
      intro self k x1 x2 ab2 fi2 ro2 ⟨i, f1, f2, f3, f4⟩ ih
      subst f1
      have ei : (i : Int).toNat = i := rfl
      have b1 := mSum_b mok r3.1 i (by omega)
      unfold iChest_fitMatched_b8_F
      cases k with
      | zero =>
        have i10 : i = 10 := by omega
        subst i10
        rw [if_pos (by omega), wp_some, wp_some]
        refine hm _ (Or.inr e1) (fun m2 be2 co2 ft2 hR => ⟨?_, ⟨h1, h2, f4, Or.inr ⟨r1, r3⟩, h5, h6⟩, fun e => ⟨r1, (r4 e).1, (r4 e).2⟩⟩)
        show x1 = if a = 0 then _ else _
        rw [if_neg e0, f3]
        exact (eqs _ _ (r3.2.1 m2 hR) 10 (Nat.le_refl 10)).2
      | succ k =>
        have c1 : mSum (mF g lo P W S) r.2.2.2.2.2.2.2.2.2.1 (i + 1) = mSum (mF g lo P W S) r.2.2.2.2.2.2.2.2.2.1 i + (if r.2.2.2.2.2.2.2.2.2.1 i = -1 then 0 else mF g lo P W S i (r.2.2.2.2.2.2.2.2.2.1 i).toNat) := rfl
        rw [if_neg (by omega), wp_bd1, w_foilOf]
        refine ⟨fun _ => ?_, fun w => by omega⟩
        rw [wp_ite, ei]
        refine ⟨fun e => ?_, fun e => ?_⟩
        · rw [if_pos e] at c1
          rw [wp_gd, wp_gd]
          exact ⟨jr_iff.mpr (by omega), jr_iff.mpr (by omega), ih k _ _ _ _ _ (Nat.lt_succ_self k) ⟨i + 1, by omega, by omega, by omega, f4⟩⟩
        · rw [if_neg e] at c1
          rcases r3.1.1 i (by omega) with x | ⟨j, y1, y2, y3⟩
          · exact absurd x e
          · have ej : (r.2.2.2.2.2.2.2.2.2.1 i).toNat = j := by omega
            have bF := mok.2 i j (by omega) y1
            have hFv : mF g lo P W S i j = if 0 < S i ∧ 0 < S (10 + j) then fE g lo P W i (10 + j) (S i).toNat (S (10 + j)).toNat else 100000000 := rfl
            rw [ej] at c1
            rw [wp_bd4, y2]
            refine wp_mono (w_fitOfK hN h1 f4 (i := i) (j := j) (by omega) y1) (fun q ⟨q1, q2⟩ => ?_)
            have qF : q.1 = mF g lo P W S i j := by
              by_cases c : 0 < S i ∧ 0 < S (10 + j)
              · rw [q1, hFv, if_pos c, if_pos c]
              · rw [if_neg c] at hFv
                omega
            rw [wp_gd, wp_gd]
            exact ⟨jr_iff.mpr (by omega), jr_iff.mpr (by omega), ih k _ _ _ _ _ (Nat.lt_succ_self k) ⟨i + 1, by omega, by omega, by omega, q2⟩⟩
    · rw [wp_some]
      unfold iM_matched
      rw [if_neg e0, if_neg e1, wp_some]
      exact ⟨rfl, hh, fun e => ⟨e, rfl, rfl⟩⟩
def sCnt (S : Nat → Int) (b : Nat) : Nat → Int
  | 0 => 0
  | n + 1 => sCnt S b n + (if 0 < S (b + n) then 1 else 0)
theorem sCnt_b (S : Nat → Int) (b : Nat) : ∀ n, 0 ≤ sCnt S b n ∧ sCnt S b n ≤ n
  | 0 => ⟨Int.le_refl 0, Int.le_refl 0⟩
  | n + 1 => by
    have ih := sCnt_b S b n
    show 0 ≤ sCnt S b n + _ ∧ sCnt S b n + _ ≤ _
    split <;> omega
theorem w_halves {N : Nat} (hN : 5000 ≤ N) {S : Nat → Int} {b : Nat} (hb : b ≤ 10) : wp (iChest_halvesFrom N b S) (fun r => r = sCnt S b 10) := by
  unfold iChest_halvesFrom iChest_halvesFrom_b4
  refine wp_zlp2 (fun (k : Nat) (x2 x3 : Int) => ∃ i : Nat, x3 = ((b + i : Nat) : Int) ∧ i + k = 10 ∧ x2 = sCnt S b i) ?_ N 10 0 b (by omega) ⟨0, rfl, rfl, rfl⟩
  intro self k x2 x3 ⟨i, e1, e2, e3⟩ ih
  subst e1
  have c := sCnt_b S b i
  unfold iChest_halvesFrom_b4_F
  rw [wp_gd, wp_ite]
  refine ⟨jr_iff.mpr (by omega), fun hle => ?_, fun hgt => ?_⟩
  · rw [wp_some, e3, show i = 10 by omega]
  · have c1 : sCnt S b (i + 1) = sCnt S b i + (if 0 < S (b + i) then 1 else 0) := rfl
    rw [wp_bd1, w_isThere (by omega)]
    refine ⟨fun h => ?_, fun h => ?_⟩
    · rw [if_pos h] at c1
      rw [if_neg (by decide), wp_gd, wp_gd]
      exact ⟨jr_iff.mpr (by omega), jr_iff.mpr (by omega), ih (k - 1) _ _ (by omega) ⟨i + 1, by omega, by omega, by omega⟩⟩
    · rw [if_neg h] at c1
      rw [if_pos rfl, wp_gd, wp_gd]
      exact ⟨jr_iff.mpr (by omega), jr_iff.mpr (by omega), ih (k - 1) _ _ (by omega) ⟨i + 1, by omega, by omega, by omega⟩⟩
theorem ag_all {N : Nat} (hN : 5000 ≤ N) {a ka c : Int} {S : Nat → Int} : wp (iK_all N a ka c S) (fun r => wp (iM_all N a c ka S) (fun q => r = q)) := by
  unfold iK_all iM_all
  rw [wp_ite]
  refine ⟨fun e => ?_, fun e => ?_⟩
  · unfold iActs_size
    rw [if_pos e, wp_bd1, wp_some, wp_some, wp_some]
  · rw [if_neg e, wp_ite]
    refine ⟨fun e1 => ?_, fun e1 => ?_⟩
    · unfold iK_presentAct iM_asNow iActs_size
      rw [if_pos e1, wp_bd1, wp_ite]
      refine ⟨fun k => ?_, fun k => ?_⟩
      · rw [wp_bd1, wp_some, wp_some, wp_some, wp_bd1, if_pos k, wp_some, wp_some]
      · rw [wp_some, wp_some, wp_bd1, if_neg k, wp_some, wp_some]
    · rw [if_neg e1, wp_ite]
      refine ⟨fun e2 => ?_, fun e2 => ?_⟩
      · rw [if_pos e2, wp_bd1]
        refine wp_mono (w_halves hN (S := S) (b := 0) (by omega)) (fun r hr => ?_)
        rw [wp_some]
        unfold iM_all_b44
        refine wp_zlp2 (fun (k : Nat) (x2 x3 : Int) => ∃ i : Nat, x3 = i ∧ i + k = 10 ∧ x2 = sCnt S 0 i) ?_ N 10 0 0 (by omega) ⟨0, rfl, rfl, rfl⟩
        intro self k x2 x3 ⟨i, f1, f2, f3⟩ ih
        subst f1
        have cb := sCnt_b S 0 i
        unfold iM_all_b44_F
        rw [wp_ite]
        refine ⟨fun hle => ?_, fun hgt => ?_⟩
        · rw [wp_some, hr, f3, show i = 10 by omega]
        · have c1 : sCnt S 0 (i + 1) = sCnt S 0 i + (if 0 < S (0 + i) then 1 else 0) := rfl
          rw [Nat.zero_add] at c1
          rw [wp_bd1, w_M_isThere (by omega)]
          refine ⟨fun h => ?_, fun h => ?_⟩
          · rw [if_pos h] at c1
            rw [if_neg (by decide), wp_gd, wp_gd]
            exact ⟨jr_iff.mpr (by omega), jr_iff.mpr (by omega), ih (k - 1) _ _ (by omega) ⟨i + 1, by omega, by omega, by omega⟩⟩
          · rw [if_neg h] at c1
            rw [if_pos rfl, wp_gd]
            exact ⟨jr_iff.mpr (by omega), ih (k - 1) _ _ (by omega) ⟨i + 1, by omega, by omega, by omega⟩⟩
      · rw [if_neg e2, wp_ite]
        refine ⟨fun e3 => ?_, fun e3 => ?_⟩
        · rw [if_pos e3, wp_bd1]
          refine wp_mono (w_halves hN (S := S) (b := 10) (by omega)) (fun r hr => ?_)
          rw [wp_some]
          unfold iM_all_b71
          refine wp_zlp2 (fun (k : Nat) (x2 x3 : Int) => ∃ i : Nat, x3 = i ∧ i + k = 10 ∧ x2 = sCnt S 10 i) ?_ N 10 0 0 (by omega) ⟨0, rfl, rfl, rfl⟩
          intro self k x2 x3 ⟨i, f1, f2, f3⟩ ih
          subst f1
          have cb := sCnt_b S 10 i
          unfold iM_all_b71_F
          rw [wp_ite]
          refine ⟨fun hle => ?_, fun hgt => ?_⟩
          · rw [wp_some, hr, f3, show i = 10 by omega]
          · have c1 : sCnt S 10 (i + 1) = sCnt S 10 i + (if 0 < S (10 + i) then 1 else 0) := rfl
            rw [wp_gd, wp_bd1, show (10 : Int) + i = ((10 + i : Nat) : Int) by omega, w_M_isThere (by omega)]
            refine ⟨jr_iff.mpr (by omega), fun h => ?_, fun h => ?_⟩
            · rw [if_pos h] at c1
              rw [if_neg (by decide), wp_gd, wp_gd]
              exact ⟨jr_iff.mpr (by omega), jr_iff.mpr (by omega), ih (k - 1) _ _ (by omega) ⟨i + 1, by omega, by omega, by omega⟩⟩
            · rw [if_neg h] at c1
              rw [if_pos rfl, wp_gd]
              exact ⟨jr_iff.mpr (by omega), ih (k - 1) _ _ (by omega) ⟨i + 1, by omega, by omega, by omega⟩⟩
        · rw [if_neg e3, wp_some, wp_some]
