set_option maxHeartbeats 4000000
set_option maxRecDepth 100000
/-! the chest's calls agree -/
def IH (n g lo lim ch isM : Int) (P W S fi gw ma : Nat → Int) : Prop := fOk g lo P W S ∧ (0 ≤ lim ∧ lim ≤ 500) ∧ cFit g lo P W S fi ∧ (isM = 0 ∨ isM = 1 ∧ cM g lo lim P W S ma gw) ∧ 0 ≤ ch ∧ ch ≤ n
theorem IH_up {n g lo lim ch isM : Int} {P W S fi gw ma : Nat → Int} (h : IH n g lo lim ch isM P W S fi gw ma) : IH (n + 1) g lo lim ch isM P W S fi gw ma := by
  obtain ⟨h1, h2, h3, h4, h5, h6⟩ := h
  exact ⟨h1, h2, h3, h4, h5, by omega⟩
theorem ag_cut {N : Nat} (hN : 5000 ≤ N) {n f k pl wo ch isM g lo lim : Int} {fi P S W gw ma : Nat → Int} (hn : n ≤ 1000000) (h : IH n g lo lim ch isM P W S fi gw ma) : wp (iK_cut N f k pl wo ch isM fi P S W) (fun r => wp (iM_cut f k pl wo P W S) (fun q => r.1 = q.1 ∧ q.2.1 = r.2.2.2.2.1 ∧ q.2.2.1 = r.2.2.2.2.2.2 ∧ q.2.2.2 = r.2.2.2.2.2.1 ∧ IH (n + 1) g lo lim r.2.1 r.2.2.1 r.2.2.2.2.1 r.2.2.2.2.2.2 r.2.2.2.2.2.1 r.2.2.2.1 gw ma ∧ ((r.2.1 = ch ∧ r.2.2.1 = isM ∧ r.2.2.2.2.1 = P ∧ r.2.2.2.2.2.2 = W ∧ r.2.2.2.2.2.1 = S) ∨ r.2.1 = ch + 1))) := by
  have hh := h
  obtain ⟨h1, h2, h3, h4, h5, h6⟩ := h
  refine wp_mono (w_K_cut hN h1 (by omega)) (fun r ⟨a, b⟩ => wp_mono (w_M_cut h1) (fun q ⟨c, d⟩ => ?_))
  by_cases hy : cCut f k pl wo P S
  · obtain ⟨a1, a2, a3, a4, a5, a6, a7⟩ := a hy
    obtain ⟨c1, c2, c3, c4⟩ := c hy
    rw [a1, a2, a3, a5, a6, a7]
    obtain ⟨y1, y2, y3, y4, y5⟩ := hy
    have hlt := cHf_lt (f := f) y1
    have sb := h1.2.2.1 _ hlt
    generalize cHf f k = H at *
    refine ⟨c1.symm, c2, c3, c4, ⟨⟨h1.1, h1.2.1, fun q2 hq => ?_, fun q2 hq => ?_⟩, h2, fun i j hi hj => ?_, Or.inl rfl, by omega, by omega⟩, Or.inr rfl⟩
    · by_cases e : q2 = H
      · rw [e, va_up_self]
        omega
      · rw [va_up_ne _ _ e]
        exact h1.2.2.1 q2 hq
    · by_cases e : q2 = 12 * H + (S H).toNat
      · rw [e, va_up_self, va_up_self]
        exact ⟨y2, y3⟩
      · rw [va_up_ne _ _ e, va_up_ne _ _ e]
        exact h1.2.2.2 q2 hq
    · by_cases e : i = H ∨ 10 + j = H
      · exact Or.inl ((a4 i j hi hj).1 e)
      · rw [(a4 i j hi hj).2 e, va_up_ne _ _ (fun x => e (Or.inl x)), va_up_ne _ _ (fun x => e (Or.inr x))]
        have s1 := h1.2.2.1 i (by omega)
        have s2 := h1.2.2.1 (10 + j) (by omega)
        rw [fE_cg (P := va_up P (12 * H + (S H).toNat) pl) (P2 := P) (W := va_up W (12 * H + (S H).toNat) wo) (W2 := W) (fun l hl => ⟨va_up_ne _ _ (by omega), va_up_ne _ _ (by omega)⟩) (fun l hl => ⟨va_up_ne _ _ (by omega), va_up_ne _ _ (by omega)⟩) (S i).toNat (by omega) (S (10 + j)).toNat (by omega)]
        exact h3 i j hi hj
  · obtain ⟨a1, a2, a3, a4, a5, a6, a7⟩ := b hy
    obtain ⟨c1, c2, c3, c4⟩ := d hy
    rw [a1, a2, a3, a4, a5, a6, a7]
    exact ⟨c1.symm, c2, c3, c4, IH_up hh, Or.inl ⟨rfl, rfl, rfl, rfl, rfl⟩⟩
theorem ag_burn {N : Nat} (hN : 5000 ≤ N) {n f k ch isM g lo lim : Int} {fi P S W gw ma : Nat → Int} (hn : n ≤ 1000000) (h : IH n g lo lim ch isM P W S fi gw ma) : wp (iK_burn N f k ch isM fi S) (fun r => wp (iM_burn f k S) (fun q => r.1 = q.1 ∧ q.2 = r.2.2.2.2 ∧ IH (n + 1) g lo lim r.2.1 r.2.2.1 P W r.2.2.2.2 r.2.2.2.1 gw ma ∧ ((r.2.1 = ch ∧ r.2.2.1 = isM ∧ r.2.2.2.2 = S) ∨ r.2.1 = ch + 1))) := by
  have hh := h
  obtain ⟨h1, h2, h3, h4, h5, h6⟩ := h
  unfold iK_burn iM_burn
  rw [wp_bd1, w_isStick]
  refine ⟨fun hk => ?_, fun hk => ?_⟩
  · have hlt := cHf_lt (f := f) hk
    have sb := h1.2.2.1 _ hlt
    rw [if_neg (by decide), wp_bd1, w_half hk, wp_some, wp_bd5]
    unfold iChest_clear
    rw [wp_bd1, w_isThere hlt]
    have hm : ∀ Q : R_iM_burn → Prop, (0 < S (cHf f k) → Q (1, va_up S (cHf f k) 0)) → (¬ 0 < S (cHf f k) → Q (0, S)) → wp (bd1 (iM_half f k) fun rc1 => bd1 (iM_isThere rc1 S) fun rc2 => if rc2 = 0 then some (0, S) else gd (jb rc1 20) <| some (1, va_up S rc1.toNat 0)) Q := fun Q q1 q2 => by
      rw [wp_bd1, w_M_half, if_pos hk, wp_some, wp_bd1, w_M_isThere hlt]
      refine ⟨fun a => ?_, fun a => ?_⟩
      · rw [if_neg (by decide), wp_gd, wp_some]
        exact ⟨jb_iff.mpr (by omega), q1 a⟩
      · rw [if_pos rfl, wp_some]
        exact q2 a
    refine ⟨fun hs => ?_, fun hs => ?_⟩
    · rw [if_neg (by decide), wp_gd, wp_bd3]
      refine ⟨jb_iff.mpr (by omega), wp_mono (w_forget hN hlt (by omega)) (fun r ⟨r1, r2, r3⟩ => ?_)⟩
      rw [wp_some, if_neg (show ¬ (1 : Int) = 0 by decide), wp_some]
      refine hm _ (fun _ => ?_) (fun n => absurd hs n)
      have eh : ((cHf f k : Nat) : Int).toNat = cHf f k := rfl
      refine ⟨rfl, rfl, ⟨⟨h1.1, h1.2.1, fun q2 hq => ?_, h1.2.2.2⟩, h2, fun i j hi hj => ?_, Or.inl r2, by show 0 ≤ r.1; omega, by show r.1 ≤ n + 1; omega⟩, Or.inr r1⟩
      · show 0 ≤ va_up S (cHf f k) 0 q2 ∧ va_up S (cHf f k) 0 q2 ≤ 12
        by_cases e : q2 = cHf f k
        · rw [e, va_up_self]
          omega
        · rw [va_up_ne _ _ e]
          exact h1.2.2.1 q2 hq
      · show r.2.2 (10 * i + j) = -2 ∨ r.2.2 (10 * i + j) = fE g lo P W i (10 + j) (va_up S (cHf f k) 0 i).toNat (va_up S (cHf f k) 0 (10 + j)).toNat
        by_cases e : i = cHf f k ∨ 10 + j = cHf f k
        · exact Or.inl ((r3 i j hi hj).1 e)
        · rw [(r3 i j hi hj).2 e, va_up_ne _ _ (fun x => e (Or.inl x)), va_up_ne _ _ (fun x => e (Or.inr x))]
          exact h3 i j hi hj
    · rw [if_pos rfl, wp_some, if_pos rfl, wp_some]
      exact hm _ (fun a => absurd a hs) (fun _ => ⟨rfl, rfl, IH_up hh, Or.inl ⟨rfl, rfl, rfl⟩⟩)
  · rw [if_pos rfl, wp_some, wp_bd1, w_M_half, if_neg hk, wp_some, wp_bd1]
    unfold iM_isThere
    rw [if_pos rfl, wp_some, if_pos rfl, wp_some]
    exact ⟨rfl, rfl, IH_up hh, Or.inl ⟨rfl, rfl, rfl⟩⟩
theorem ag_sum {N : Nat} (hN : 5000 ≤ N) {n f k ch isM g lo lim : Int} {fi P S W gw ma pe : Nat → Int} (hpe : ∀ n, n < 6 → pe n = jc2.getD n 0) (h : IH n g lo lim ch isM P W S fi gw ma) : wp (iK_sum N f k S W) (fun r => wp (iM_sum N f k W S pe) (fun q => r = q)) := by
  obtain ⟨h1, h2, h3, h4, h5, h6⟩ := h
  unfold iK_sum iM_sum
  rw [wp_bd1, w_isStick]
  refine ⟨fun hk => ?_, fun hk => ?_⟩
  · have hlt := cHf_lt (f := f) hk
    rw [if_neg (by decide), wp_bd1, w_half hk, wp_some, wp_bd1]
    refine wp_mono (w_worthOf hN h1 hlt) (fun r hr => ?_)
    rw [wp_some, wp_bd1, w_M_half, if_pos hk, wp_some, wp_bd1, w_M_isThere hlt]
    refine ⟨fun hs => ?_, fun hs => ?_⟩
    · rw [if_neg (by decide), wp_bd1]
      refine wp_mono (w_M_sumOf hN h1 hpe hlt) (fun q hq => ?_)
      rw [wp_some, hr, hq, if_pos hs]
    · rw [if_pos rfl, wp_some, hr, if_neg hs]
  · rw [if_pos rfl, wp_some, wp_bd1, w_M_half, if_neg hk, wp_some, wp_bd1]
    unfold iM_isThere
    rw [if_pos rfl, wp_some, if_pos rfl, wp_some]
theorem ag_wear {n a b c ch isM g lo lim : Int} {fi P S W gw ma : Nat → Int} (hn : n ≤ 1000000) (h : IH n g lo lim ch isM P W S fi gw ma) : wp (iK_wear a b c ch g isM lim lo fi) (fun r => wp (iM_wear a b c g lim lo) (fun q => r.1 = q.1 ∧ q.2.1 = r.2.2.1 ∧ q.2.2.1 = r.2.2.2.2.1 ∧ q.2.2.2 = r.2.2.2.2.2.1 ∧ IH (n + 1) r.2.2.1 r.2.2.2.2.2.1 r.2.2.2.2.1 r.2.1 r.2.2.2.1 P W S r.2.2.2.2.2.2 gw ma ∧ ((r.2.1 = ch ∧ r.2.2.2.1 = isM ∧ r.2.2.1 = g ∧ r.2.2.2.2.1 = lim ∧ r.2.2.2.2.2.1 = lo) ∨ r.2.1 = ch + 1))) := by
  have hh := h
  obtain ⟨h1, h2, h3, h4, h5, h6⟩ := h
  have hm : ∀ Q : R_iM_wear → Prop, ((0 ≤ a ∧ a ≤ 20) ∧ (1 ≤ b ∧ b ≤ 100) ∧ (0 ≤ c ∧ c ≤ 500) → Q (1, a, c, b)) → (¬ ((0 ≤ a ∧ a ≤ 20) ∧ (1 ≤ b ∧ b ≤ 100) ∧ (0 ≤ c ∧ c ≤ 500)) → Q (0, g, lim, lo)) → wp (iM_wear a b c g lim lo) Q := fun Q q1 q2 => by
    unfold iM_wear
    rw [wp_bd1, w_isIn]
    refine ⟨fun x => ?_, fun x => ?_⟩
    · rw [if_neg (by decide), wp_bd1, w_isIn]
      refine ⟨fun y => ?_, fun y => ?_⟩
      · rw [if_neg (by decide), wp_bd1, w_isIn]
        refine ⟨fun z => ?_, fun z => ?_⟩
        · rw [if_neg (by decide), wp_some]
          exact q1 ⟨x, y, z⟩
        · rw [if_pos rfl, wp_some]
          exact q2 (fun w => z w.2.2)
      · rw [if_pos rfl, wp_some]
        exact q2 (fun w => y w.2.1)
    · rw [if_pos rfl, wp_some]
      exact q2 (fun w => x w.1)
  have no : ¬ ((0 ≤ a ∧ a ≤ 20) ∧ (1 ≤ b ∧ b ≤ 100) ∧ (0 ≤ c ∧ c ≤ 500)) → wp (some ((0 : Int), ch, g, isM, lim, lo, fi)) (fun r => wp (gd (jB r.1) <| some (r.1, r.2.1, r.2.2.1, r.2.2.2.1, r.2.2.2.2.1, r.2.2.2.2.2.1, r.2.2.2.2.2.2)) (fun r => wp (iM_wear a b c g lim lo) (fun q => r.1 = q.1 ∧ q.2.1 = r.2.2.1 ∧ q.2.2.1 = r.2.2.2.2.1 ∧ q.2.2.2 = r.2.2.2.2.2.1 ∧ IH (n + 1) r.2.2.1 r.2.2.2.2.2.1 r.2.2.2.2.1 r.2.1 r.2.2.2.1 P W S r.2.2.2.2.2.2 gw ma ∧ ((r.2.1 = ch ∧ r.2.2.2.1 = isM ∧ r.2.2.1 = g ∧ r.2.2.2.2.1 = lim ∧ r.2.2.2.2.2.1 = lo) ∨ r.2.1 = ch + 1)))) := fun hn2 => by
    rw [wp_some, wp_gd, wp_some]
    exact ⟨jB_iff.mpr (Or.inl rfl), hm _ (fun w => absurd w hn2) (fun _ => ⟨rfl, rfl, rfl, rfl, IH_up hh, Or.inl ⟨rfl, rfl, rfl, rfl, rfl⟩⟩)⟩
  unfold iK_wear iChest_setWear
  rw [wp_bd7, wp_ite]
  refine ⟨fun x => no (by omega), fun x1 => ?_⟩
  rw [wp_ite]
  refine ⟨fun x => no (by omega), fun x2 => ?_⟩
  rw [wp_ite]
  refine ⟨fun x => no (by omega), fun x3 => ?_⟩
  rw [wp_ite]
  refine ⟨fun x => no (by omega), fun x4 => ?_⟩
  rw [wp_ite]
  refine ⟨fun x => no (by omega), fun x5 => ?_⟩
  rw [wp_ite]
  refine ⟨fun x6 => ?_, fun x => no (by omega)⟩
  have yes : ∀ fi2 : Nat → Int, cFit a b P W S fi2 → wp (iChest_setWear_b59 a b c ch g isM lim lo fi2) (fun r => wp (gd (jB r.1) <| some (r.1, r.2.1, r.2.2.1, r.2.2.2.1, r.2.2.2.2.1, r.2.2.2.2.2.1, r.2.2.2.2.2.2)) (fun r => wp (iM_wear a b c g lim lo) (fun q => r.1 = q.1 ∧ q.2.1 = r.2.2.1 ∧ q.2.2.1 = r.2.2.2.2.1 ∧ q.2.2.2 = r.2.2.2.2.2.1 ∧ IH (n + 1) r.2.2.1 r.2.2.2.2.2.1 r.2.2.2.2.1 r.2.1 r.2.2.2.1 P W S r.2.2.2.2.2.2 gw ma ∧ ((r.2.1 = ch ∧ r.2.2.2.1 = isM ∧ r.2.2.1 = g ∧ r.2.2.2.2.1 = lim ∧ r.2.2.2.2.2.1 = lo) ∨ r.2.1 = ch + 1)))) := fun fi2 hf => by
    unfold iChest_setWear_b59
    rw [wp_gd, wp_some, wp_gd, wp_some]
    exact ⟨jr_iff.mpr (by omega), jB_iff.mpr (Or.inr rfl), hm _ (fun _ => ⟨rfl, rfl, rfl, rfl, ⟨⟨by show 0 ≤ a ∧ a ≤ 20; omega, by show 1 ≤ b ∧ b ≤ 100; omega, h1.2.2⟩, by show 0 ≤ c ∧ c ≤ 500; omega, hf, Or.inl rfl, by show 0 ≤ ch + 1; omega, by show ch + 1 ≤ n + 1; omega⟩, Or.inr rfl⟩) (fun w => by omega)⟩
  rw [wp_ite]
  refine ⟨fun e1 => ?_, fun e1 => ?_⟩
  · rw [wp_ite]
    refine ⟨fun e2 => yes fi (by rw [e1, e2]; exact h3), fun e2 => ?_⟩
    unfold iChest_setWear_b50
    exact yes _ (fun i j hi hj => Or.inl rfl)
  · unfold iChest_setWear_b50
    exact yes _ (fun i j hi hj => Or.inl rfl)
theorem ag_fit {N : Nat} (hN : 5000 ≤ N) {n a b ch isM g lo lim : Int} {ab fi P ro S W gw ma co : Nat → Int} (h : IH n g lo lim ch isM P W S fi gw ma) : wp (iK_fit N a b g lo ab fi P ro S W) (fun r => wp (iM_fit N a b g lo co P W S) (fun q => r.1 = q.1 ∧ IH n g lo lim ch isM P W S r.2.2.1 gw ma)) := by
  have hh := h
  obtain ⟨h1, h2, h3, h4, h5, h6⟩ := h
  have hm : ∀ Q : R_iM_fit → Prop, (∀ co2, (0 ≤ a ∧ a < 10) ∧ (0 ≤ b ∧ b < 10) → 0 < S a.toNat ∧ 0 < S (10 + b.toNat) → Q (fE g lo P W a.toNat (10 + b.toNat) (S a.toNat).toNat (S (10 + b.toNat)).toNat, co2)) → (∀ co2, ¬ (((0 ≤ a ∧ a < 10) ∧ (0 ≤ b ∧ b < 10)) ∧ 0 < S a.toNat ∧ 0 < S (10 + b.toNat)) → Q (-1, co2)) → wp (iM_fit N a b g lo co P W S) Q := fun Q q1 q2 => by
    unfold iM_fit
    rw [wp_bd1, w_M_half, wp_some, wp_bd1, w_M_half, wp_some, wp_bd1]
    by_cases ha : 0 ≤ a ∧ a < 10
    · have e1 : cHf 0 a = a.toNat := rfl
      rw [if_pos ha, e1, w_M_isThere (by omega)]
      refine ⟨fun s1 => ?_, fun s1 => ?_⟩
      · rw [if_neg (by decide), wp_bd1]
        by_cases hb : 0 ≤ b ∧ b < 10
        · have e2 : cHf 1 b = 10 + b.toNat := rfl
          rw [if_pos hb, e2, w_M_isThere (by omega)]
          refine ⟨fun s2 => ?_, fun s2 => ?_⟩
          · rw [if_neg (by decide), wp_bd2]
            refine wp_mono (w_M_fitOf hN h1 (a := a.toNat) (b := 10 + b.toNat) (by omega) (by omega)) (fun r hr => ?_)
            rw [wp_some, hr]
            exact q1 _ ⟨ha, hb⟩ ⟨s1, s2⟩
          · rw [if_pos rfl, wp_some]
            exact q2 _ (fun w => s2 w.2.2)
        · unfold iM_isThere
          rw [if_neg hb, if_pos rfl, wp_some, if_pos rfl, wp_some]
          exact q2 _ (fun w => hb w.1.2)
      · rw [if_pos rfl, wp_some]
        exact q2 _ (fun w => s1 w.2.1)
    · unfold iM_isThere
      rw [if_neg ha, if_pos rfl, wp_some, if_pos rfl, wp_some]
      exact q2 _ (fun w => ha w.1.1)
  unfold iK_fit
  rw [wp_bd1, w_isStick]
  refine ⟨fun ha => ?_, fun ha => ?_⟩
  · rw [if_neg (by decide), wp_bd1, w_isStick]
    refine ⟨fun hb => ?_, fun hb => ?_⟩
    · have ea : ((a.toNat : Nat) : Int) = a := by omega
      have eb : ((b.toNat : Nat) : Int) = b := by omega
      have k := w_fitOfK hN (ab := ab) (ro := ro) h1 h3 (i := a.toNat) (j := b.toNat) (by omega) (by omega)
      rw [ea, eb] at k
      rw [if_neg (by decide), wp_bd4]
      refine wp_mono k (fun r ⟨r1, r2⟩ => ?_)
      rw [wp_some]
      refine hm _ (fun co2 _ s => ⟨?_, h1, h2, r2, h4, h5, h6⟩) (fun co2 s => ⟨?_, h1, h2, r2, h4, h5, h6⟩)
      · show r.1 = _
        rw [r1, if_pos s]
      · show r.1 = _
        rw [r1, if_neg (fun w => s ⟨⟨ha, hb⟩, w⟩)]
    · rw [if_pos rfl, wp_some]
      exact hm _ (fun co2 w => absurd w.2 hb) (fun co2 _ => ⟨rfl, hh⟩)
  · rw [if_pos rfl, wp_some]
    exact hm _ (fun co2 w => absurd w.1 ha) (fun co2 _ => ⟨rfl, hh⟩)
