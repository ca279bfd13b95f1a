set_option maxHeartbeats 4000000
set_option maxRecDepth 100000
/-! the reference's roll -/
/-- behind term x: what is put off lies from x + 1 on -/
def OA (x : Nat) (off o : Nat → Int) : Prop := ∀ j, x + 1 + j < 60 → off (x + 1 + j) = o j
theorem w_246 {N a x i : Nat} {sh p part : Int} {v fi ib mn se so sE sF tE off pile : Nat → Int} {al d fa bl pa pl x3 : Int} {f1 : Nat} {K : (Nat → Int) → Option R_iM_does} {Q : R_iM_does → Prop} (hN : 5000 ≤ N) (hi : i < 4824) (hf : fi i = f1) (h1 : 2 ≤ f1 ∧ f1 ≤ 20) (hx : x ≤ 39) (hp : 0 ≤ part ∧ part ≤ 100000000000000) (ho : ∀ y, x + 1 ≤ y → y < 60 → 0 ≤ off y ∧ off y ≤ 100000000000000) (h : wp (K (fun y => if x + 1 ≤ y ∧ y < x + f1 then off y + part else off y)) Q) : wp (iM_does_b246 N a 3 x p sh v fi ib mn se so sE sF tE x3 i part al d fa bl pa pl pile K N 1 off) Q := by
  unfold iM_does_b246
  refine wp_zlp2 (fun (m : Nat) (x7 : Int) (u : Nat → Int) => ∃ k : Nat, k + m = f1 ∧ 1 ≤ k ∧ x7 = k ∧ u = fun y => if x + 1 ≤ y ∧ y < x + k then off y + part else off y) ?_ N (f1 - 1) 1 off (by omega) ⟨1, by omega, Nat.le_refl 1, rfl, ?_⟩
  · intro self m x7 u ⟨k, k1, k2, k3, k4⟩ ih
    subst k3 k4
    have ei : (i : Int).toNat = i := rfl
    unfold iM_does_b246_F
    rw [wp_gd, ei, hf, wp_ite]
    refine ⟨jb_iff.mpr (by omega), fun c => ?_, fun c => ?_⟩
    · have : k = f1 := by omega
      rw [this]
      exact h
    · have ek : ((x : Int) + (k : Int)).toNat = x + k := by omega
      have ob := ho (x + k) (by omega) (by omega)
      rw [wp_gd, wp_gd, wp_gd, wp_gd, ek]
      show _ ∧ _ ∧ _ ∧ jR ((if x + 1 ≤ x + k ∧ x + k < x + k then off (x + k) + part else off (x + k)) + part) = true ∧ wp (self _ (va_up _ (x + k) ((if x + 1 ≤ x + k ∧ x + k < x + k then off (x + k) + part else off (x + k)) + part))) Q
      rw [if_neg (by omega)]
      refine ⟨jr_iff.mpr (by omega), jb_iff.mpr (by omega), jr_iff.mpr (by omega), jR_iff.mpr (by omega), ih (m - 1) _ _ (by omega) ⟨k + 1, by omega, by omega, by omega, ?_⟩⟩
      funext y
      by_cases hy : y = x + k
      · rw [hy, va_up_self, if_pos (by omega)]
      · rw [va_up_ne _ _ hy]
        by_cases c2 : x + 1 ≤ y ∧ y < x + k
        · rw [if_pos c2, if_pos (by omega)]
        · rw [if_neg c2, if_neg (by omega)]
  · funext y
    rw [if_neg (by omega)]
theorem w_does3 {N a x : Nat} {sh p : Int} {v fi ib mn se so sE sF tE : Nat → Int} {V : List St} (hN : 5000 ≤ N) (ha : a ≤ 200) (hx : x ≤ 39) (hR : RWr a v fi ib mn se so sE sF tE V) (hW : wsOk V) : ∀ (B A : List St) (m : Nat) (al d fa bl pa pl : Int) (off pile o : Nat → Int) (Q : R_iM_does → Prop), V = A ++ B → B.length < m → oOk o → OA x off o → aB d + oS o 19 ≤ 10000000000000 → (∀ pl2 pile2 off2, OA x off2 (runS sh x p B (d, o)).2 → Q (al, (runS sh x p B (d, o)).1, fa, bl, pa, pl2, off2, pile2)) → wp (iM_does_b2 N a 3 x p sh v fi ib mn se so sE sF tE m A.length al d fa bl pa pl off pile) Q := by
  intro B
  induction B with
  | nil =>
    intro A m al d fa bl pa pl off pile o Q hV hm ho hO hd hQ
    obtain ⟨m2, rfl⟩ : ∃ m2, m = m2 + 1 := ⟨m - 1, by have : 0 < m := hm; omega⟩
    have ea : (a : Int).toNat = a := rfl
    have hm2 := hR.2.1
    rw [hV, List.append_nil] at hm2
    show wp (iM_does_b2_F N a 3 x p sh v fi ib mn se so sE sF tE (iM_does_b2 N a 3 x p sh v fi ib mn se so sE sF tE m2) A.length al d fa bl pa pl off pile) Q
    unfold iM_does_b2_F
    rw [wp_gd, ea, if_pos (by omega), wp_some]
    exact ⟨jb_iff.mpr (by omega), hQ pl pile off hO⟩
  | cons w B ih =>
    intro A m al d fa bl pa pl off pile o Q hV hm ho hO hd hQ
    have hm1 : B.length + 1 < m := hm
    obtain ⟨m2, rfl⟩ : ∃ m2, m = m2 + 1 := ⟨m - 1, by omega⟩
    have ea : (a : Int).toNat = a := rfl
    have ei : (24 * (a : Int) + (A.length : Int)).toNat = 24 * a + A.length := by omega
    have ej : 24 * (a : Int) + (A.length : Int) = ((24 * a + A.length : Nat) : Int) := by omega
    have hm2 := hR.2.1
    have hA := pre_lt hV
    have hV2 := hW.1
    have hw := hW.2.2 w (mem_mid hV)
    have hV3 : V = (A ++ [w]) ++ B := by rw [hV, List.append_assoc]; rfl
    have lA : (A ++ [w]).length = A.length + 1 := by rw [List.length_append]; rfl
    obtain ⟨r1, r2, r3, r4, _, _, _⟩ := hR.1 A w B hV
    have sb := sS_b (sh := sh) (p := p) (x := x) (s := (d, o)) hw ho
    have next : ∀ (d2 pl2 : Int) (pile2 off2 o2 : Nat → Int), (d2, o2) = sS sh x p w (d, o) → OA x off2 o2 → wp (iM_does_b2 N a 3 x p sh v fi ib mn se so sE sF tE m2 ((A.length : Int) + 1) al d2 fa bl pa pl2 off2 pile2) Q := by
      intro d2 pl2 pile2 off2 o2 hs hO2
      rw [← hs] at sb
      have := ih (A ++ [w]) m2 al d2 fa bl pa pl2 off2 pile2 o2 Q hV3 (by omega) sb.1 hO2 (by have e := sb.2; show aB (d2, o2).1 + oS (d2, o2).2 19 ≤ _; rw [e]; exact hd) (fun pl3 pile3 off3 h3 => ?_)
      · rw [lA] at this
        exact this
      · have e9 : runS sh x p (w :: B) (d, o) = runS sh x p B (d2, o2) := by rw [hs]; rfl
        have h4 := hQ pl3 pile3 off3
        rw [e9] at h4
        exact h4 h3
    have stay : ∀ (pl2 : Int) (pile2 : Nat → Int), ¬ (w.kd = 4 ∧ 0 < d ∧ val (env sh x d p) w.t ≠ 0) → wp (iM_does_b2 N a 3 x p sh v fi ib mn se so sE sF tE m2 ((A.length : Int) + 1) al d fa bl pa pl2 off pile2) Q := fun pl2 pile2 h => next d pl2 pile2 off o (if_neg h).symm hO
    show wp (iM_does_b2_F N a 3 x p sh v fi ib mn se so sE sF tE (iM_does_b2 N a 3 x p sh v fi ib mn se so sE sF tE m2) A.length al d fa bl pa pl off pile) Q
    unfold iM_does_b2_F
    rw [wp_gd, ea, if_neg (by omega), wp_gd, wp_gd, wp_gd, ei, r1]
    refine ⟨jb_iff.mpr (by omega), jr_iff.mpr (by omega), jr_iff.mpr (by omega), jb_iff.mpr (by omega), ?_⟩
    by_cases hk : w.kd = 4
    · rw [if_pos (by omega), wp_bd3, ej]
      refine w_holds hN ha hx hR hW hV (fun pile2 => ?_)
      by_cases hv : val (env sh x d p) w.t = 0
      · show wp (if (if val (env sh x d p) w.t = 0 then (0 : Int) else 1) = 0 then _ else _) Q
        rw [if_pos hv, if_pos rfl, wp_gd]
        exact ⟨jr_iff.mpr (by omega), stay _ _ (fun h => h.2.2 hv)⟩
      · show wp (if (if val (env sh x d p) w.t = 0 then (0 : Int) else 1) = 0 then _ else _) Q
        rw [if_neg hv, if_neg (by decide), if_neg (by decide), if_neg (by decide), if_neg (by decide)]
        unfold iM_does_b212
        rw [if_pos rfl]
        by_cases hd0 : d ≤ 0
        · rw [if_pos hd0, wp_gd]
          exact ⟨jr_iff.mpr (by omega), stay _ _ (fun h => by have := h.2.1; omega)⟩
        · obtain ⟨f1, f2⟩ := f1_ok hw hk
          have d0 : 0 ≤ d / w.f1 ∧ d / w.f1 ≤ d := div_le_self' (by omega) (by omega)
          have d1 : d / w.f1 * w.f1 ≤ d := Int.ediv_mul_le d (by omega)
          have e1 : d / w.f1 * (w.f1 - 1) = d / w.f1 * w.f1 - d / w.f1 := by rw [Int.mul_sub, Int.mul_one]
          have d2 : 0 ≤ d / w.f1 * w.f1 := Int.mul_nonneg d0.1 (by omega)
          have ab := aB_s d
          have o0 := oS_0 ho.1 19
          have hff : fi (24 * a + A.length) = ((w.f1).toNat : Int) := by omega
          have ek : ((24 * a + A.length : Nat) : Int).toNat = 24 * a + A.length := rfl
          rw [if_neg hd0, wp_gd, wp_bd1, ek, r3, w_flp ⟨by omega, by omega⟩ (by omega), wp_some]
          refine ⟨jb_iff.mpr (by omega), ?_⟩
          refine w_246 hN (by omega) hff (by omega) hx ⟨d0.1, by omega⟩ (fun y y1 y2 => ?_) ?_
          · have e := hO (y - (x + 1)) (by omega)
            rw [show x + 1 + (y - (x + 1)) = y by omega] at e
            rw [e]
            refine ⟨ho.1 _, ?_⟩
            by_cases h19 : y - (x + 1) < 19
            · have := oS_ge ho.1 h19
              omega
            · rw [ho.2 _ (by omega)]
              omega
          · unfold iM_does_b281
            rw [wp_gd, wp_gd, wp_gd, wp_gd, wp_gd, ek, r3]
            refine ⟨jb_iff.mpr (by omega), jr_iff.mpr (by omega), jr_iff.mpr (by omega), jR_iff.mpr (by omega), jR_iff.mpr (by omega), next _ _ _ _ (addO o (w.f1 - 1).toNat (d / w.f1)) ?_ ?_⟩
            · have : sS sh x p w (d, o) = (d - d / w.f1 * (w.f1 - 1), addO o (w.f1 - 1).toNat (d / w.f1)) := if_pos ⟨hk, by omega, hv⟩
              rw [this]
            · intro j hj
              show (if x + 1 ≤ x + 1 + j ∧ x + 1 + j < x + w.f1.toNat then off (x + 1 + j) + d / w.f1 else off (x + 1 + j)) = addO o (w.f1 - 1).toNat (d / w.f1) j
              unfold addO
              rw [hO j hj]
              by_cases c : j < (w.f1 - 1).toNat
              · rw [if_pos c, if_pos (by omega)]
              · rw [if_neg c, if_neg (by omega)]
    · rw [if_neg (by omega), wp_gd]
      exact ⟨jr_iff.mpr (by omega), stay _ _ (fun h => hk h.1)⟩
/-- the reference keeps the writs' statements -/
def RRw (A : AW) (v fi ib mn se so sE sF tE : Nat → Int) : Prop := ∀ k, 1 ≤ k → k ≤ A.c → A.ki k = 1 → RWr k v fi ib mn se so sE sF tE (A.Wf k)
abbrev RlA (N : Nat) (A : AW) (sh : Int) (a2 : Nat) (at_ wo mv mt : Int) (aK aN aS aT aV v fi ib mn se so sE sF tE cw cu ma pe : Nat → Int) : Nat → Int → Int → Int → Int → Int → Int → Int → Int → Int → Int → (Nat → Int) → (Nat → Int) → Option R_iM_rolls := iM_rolls_b33 N sh a2 A.c at_ mv mt wo aK aN aS aT v cw cu fi ib mn ma pe se so sE sF tE aV sh
theorem w_rollsL {N : Nat} {A : AW} {sh at_ wo mv mt : Int} {a2 : Nat} {aK aN aS aT aV v fi ib mn se so sE sF tE cw cu ma pe : Nat → Int} (hN : 5000 ≤ N) (hA : A.ok) (hr : AWr A aK aN aS aT aV) (hg : gwM N A cw cu ma pe) (hR : RRw A v fi ib mn se so sE sF tE) (h2 : a2 ≤ 39) {Q : R_iM_rolls → Prop} (hQ : ∀ bl now paid pl off pile, OA a2 off (roll sh (wld A at_ wo mv mt sh) (a2 + 1)).o → Q ((roll sh (wld A at_ wo mv mt sh) (a2 + 1)).d, (roll sh (wld A at_ wo mv mt sh) (a2 + 1)).al, (roll sh (wld A at_ wo mv mt sh) (a2 + 1)).d, (roll sh (wld A at_ wo mv mt sh) (a2 + 1)).fa, bl, now, paid, (roll sh (wld A at_ wo mv mt sh) (a2 + 1)).pd, (roll sh (wld A at_ wo mv mt sh) (a2 + 1)).pa, pl, sh, off, pile)) : ∀ (d x m : Nat) (al fa bl now paid pt pa pl : Int) (off pile : Nat → Int), x + d = a2 + 1 → d < m → (∀ j, x + j < 60 → off (x + j) = (roll sh (wld A at_ wo mv mt sh) x).o j) → (x ≠ 0 → al = (roll sh (wld A at_ wo mv mt sh) x).al ∧ fa = (roll sh (wld A at_ wo mv mt sh) x).fa ∧ pa = (roll sh (wld A at_ wo mv mt sh) x).pa ∧ pt = (roll sh (wld A at_ wo mv mt sh) x).pd) → wp (RlA N A sh a2 at_ wo mv mt aK aN aS aT aV v fi ib mn se so sE sF tE cw cu ma pe m x al (roll sh (wld A at_ wo mv mt sh) x).d fa bl now paid pt pa pl off pile) Q := by
  intro d
  generalize hWl : wld A at_ wo mv mt sh = Wl at *
  have hWok : Wl.ok := by rw [← hWl]; exact wld_ok hA at_ wo mv mt sh
  have wte : ∀ x, Wl.wt x = wtA A at_ wo x := fun x => by rw [← hWl]; rfl
  have wpe : ∀ x b, Wl.py x b = pA A at_ wo mv mt sh x (fA A at_ wo x A.c) b A.c := fun x b => by rw [← hWl]; rfl
  induction d with
  | zero =>
    intro x m al fa bl now paid pt pa pl off pile hx hm ho he
    obtain ⟨m2, rfl⟩ : ∃ m2, m = m2 + 1 := ⟨m - 1, by omega⟩
    have hx2 : x = a2 + 1 := hx
    subst hx2
    obtain ⟨e1, e2, e3, e4⟩ := he (by omega)
    subst e1 e2 e3 e4
    show wp (iM_rolls_b33_F N sh a2 A.c at_ mv mt wo aK aN aS aT v cw cu fi ib mn ma pe se so sE sF tE aV sh _ ((a2 + 1 : Nat) : Int) _ _ _ bl now paid _ _ pl off pile) Q
    unfold iM_rolls_b33_F
    rw [if_pos (by omega), wp_some]
    exact hQ bl now paid pl off pile ho
  | succ d ih =>
    intro x m al fa bl now paid pt pa pl off pile hx hm ho he
    obtain ⟨m2, rfl⟩ : ∃ m2, m = m2 + 1 := ⟨m - 1, by omega⟩
    have hx39 : x ≤ 39 := by omega
    have hc := hA.1
    have hS := roll_ok (sh := sh) hWok (show x ≤ 40 by omega)
    have sb := step_b (sh := sh) hWok hx39 hS
    have rb := roll_b (sh := sh) hWok (show x ≤ 40 by omega)
    have enx : roll sh Wl (x + 1) = rstep sh Wl x (roll sh Wl x) := rfl
    generalize hSS : roll sh Wl x = S at *
    obtain ⟨b1, b2, b3, b4, b5, b6, b7, b8, b9, c1, c2, c3, c4, c5⟩ := sb
    have o0 : off x = S.o 0 := ho 0 (by omega)
    have ex : (x : Int).toNat = x := rfl
    -- the term's end
    have b134 : ∀ (al2 d2 fa2 bl2 pd2 pa2 pl2 pt2 : Int) (off2 pile2 : Nat → Int), d2 = (rstep sh Wl x S).d → al2 = (rstep sh Wl x S).al → fa2 = (rstep sh Wl x S).fa → pa2 = (rstep sh Wl x S).pa → pd2 = (rstep sh Wl x S).pd → OA x off2 (rstep sh Wl x S).o → wp (iM_rolls_b134 N sh a2 A.c at_ mv mt wo aK aN aS aT v cw cu fi ib mn ma pe se so sE sF tE aV (RlA N A sh a2 at_ wo mv mt aK aN aS aT aV v fi ib mn se so sE sF tE cw cu ma pe m2) x al2 d2 fa2 bl2 x pd2 pt2 pa2 pl2 sh off2 pile2) Q := by
      intro al2 d2 fa2 bl2 pd2 pa2 pl2 pt2 off2 pile2 q1 q2 q3 q4 q5 hO
      unfold iM_rolls_b134
      rw [wp_gd]
      have := ih (x + 1) m2 al2 fa2 bl2 x pd2 pd2 pa2 pl2 off2 pile2 (by omega) (by omega) (by rw [enx]; exact hO) (fun _ => by rw [enx]; exact ⟨q2, q3, q4, q5⟩)
      rw [enx, ← q1] at this
      exact ⟨jr_iff.mpr (by omega), this⟩
    show wp (iM_rolls_b33_F N sh a2 A.c at_ mv mt wo aK aN aS aT v cw cu fi ib mn ma pe se so sE sF tE aV sh (RlA N A sh a2 at_ wo mv mt aK aN aS aT aV v fi ib mn se so sE sF tE cw cu ma pe m2) x al S.d fa bl now paid pt pa pl off pile) Q
    unfold iM_rolls_b33_F
    obtain ⟨B1, B2⟩ := b1
    rw [if_neg (by omega), wp_gd, wp_bd1]
    refine ⟨jb_iff.mpr (by omega), ?_⟩
    refine wp_mono (w_writOfM hN hA hr at_ wo (show x ≤ 60 by omega)) (fun r hr0 => ?_)
    subst hr0
    have ws := wA_s A at_ wo x A.c
    by_cases hw0 : wA A at_ wo x A.c = 0
    · have wn : Wl.wt x = [] := by
        rw [wte]
        exact if_pos hw0
      have s1 : st1 sh Wl x S = (S.d + S.o 0, 0, 0) := by unfold st1; rw [wn]; rfl
      have s2 : st2 sh Wl x S = (S.d + S.o 0, 0, 0) := by unfold st2; rw [wn, s1]; rfl
      have s3 : st3 sh Wl x S = (S.d + S.o 0, 0, 0) := by unfold st3; rw [wn, s2]; rfl
      have sP : stP sh Wl x S = pA A at_ wo mv mt sh x (fA A at_ wo x A.c) 0 A.c := by unfold stP; rw [s3, wpe]
      have s4 : st4 sh Wl x S = ((S.d + S.o 0) - stP sh Wl x S, fun j => S.o (j + 1)) := by unfold st4; rw [wn, s3]; rfl
      have er : rstep sh Wl x S = ((S.d + S.o 0) - stP sh Wl x S, (fun j => S.o (j + 1)), 0, 0, 0, stP sh Wl x S) := by unfold rstep; rw [s4, s1, s2, s3]
      rw [if_pos (by rw [hw0]; exact Int.le_refl 0), wp_gd, ex, o0]
      refine ⟨jR_iff.mpr (by omega), ?_⟩
      unfold iM_rolls_b118
      rw [wp_bd2]
      refine wp_mono (w_paysM hN hA hr hg at_ wo mv mt sh (show x ≤ 60 by omega) (bl := 0) (d := S.d + S.o 0) (p := 0) ⟨by omega, by omega⟩ ⟨by omega, by omega⟩) (fun r hr1 => ?_)
      subst hr1
      rw [← sP, if_pos (by rw [hw0]; exact Int.le_refl 0)]
      refine b134 _ _ _ _ _ _ _ _ _ _ ?_ ?_ ?_ ?_ ?_ ?_
      · rw [er]
        rfl
      · rw [er]
        rfl
      · rw [er]
        rfl
      · rw [er]
        rfl
      · rw [er]
        show 0 + stP sh Wl x S = stP sh Wl x S
        omega
      · rw [er]
        intro j hj
        have := ho (j + 1) (by omega)
        rw [show x + (j + 1) = x + 1 + j by omega] at this
        exact this
    · have w1 := ws.2 hw0
      have wn : Wl.wt x = A.Wf (wA A at_ wo x A.c) := by
        rw [wte]
        exact if_neg hw0
      have hRk := hR (wA A at_ wo x A.c) (by omega) ws.1 w1.1
      have hWk := hA.2.2.1 (wA A at_ wo x A.c) (by omega) ws.1 w1.1
      have ha : wA A at_ wo x A.c ≤ 200 := by omega
      have hnp : ¬ ((wA A at_ wo x A.c : Nat) : Int) ≤ 0 := by omega
      generalize hak : wA A at_ wo x A.c = ak at *
      have V24 := hWk.1
      have f2 := runK_bl (k := 2) (sh := sh) (x := x) (Or.inl rfl) (V := Wl.wt x) (s := ((st1 sh Wl x S).1, 0, (st1 sh Wl x S).2.2)) (by rw [wn]; exact hWk.2.2)
      have f3 := runK_bl (k := 3) (sh := sh) (x := x) (Or.inr rfl) (V := Wl.wt x) (s := ((st2 sh Wl x S).1, 0, (st2 sh Wl x S).2.2)) (by rw [wn]; exact hWk.2.2)
      have g2 : (st2 sh Wl x S).2.2 = (st1 sh Wl x S).2.2 := f2
      have g3 : (st3 sh Wl x S).2.2 = (st1 sh Wl x S).2.2 := by
        have : (st3 sh Wl x S).2.2 = (st2 sh Wl x S).2.2 := f3
        rw [this, g2]
      have r1 : runK 1 sh x (A.Wf ak) (S.d + S.o 0, 0, 0) = st1 sh Wl x S := by unfold st1; rw [wn]
      have r2 : runK 2 sh x (A.Wf ak) ((st1 sh Wl x S).1, 0, (st1 sh Wl x S).2.2) = st2 sh Wl x S := by unfold st2; rw [wn]
      have r3 : runK 3 sh x (A.Wf ak) ((st2 sh Wl x S).1, 0, (st1 sh Wl x S).2.2) = st3 sh Wl x S := by unfold st3; rw [wn, g2]
      have r4 : runS sh x (stP sh Wl x S) (A.Wf ak) ((st3 sh Wl x S).1 - stP sh Wl x S, fun j => S.o (j + 1)) = st4 sh Wl x S := by unfold st4; rw [wn]
      rw [if_neg hnp, wp_gd, ex, o0]
      refine ⟨jR_iff.mpr (by omega), ?_⟩
      obtain ⟨N4, hN4⟩ : ∃ N4, N = N4 + 1 + 1 + 1 + 1 := ⟨N - 4, by omega⟩
      -- behind the three sorts
      have tail : ∀ (pl2 : Int) (pile2 : Nat → Int), wp (iM_rolls_b118 N sh a2 A.c at_ mv mt wo aK aN aS aT v cw cu fi ib mn ma pe se so sE sF tE aV (RlA N A sh a2 at_ wo mv mt aK aN aS aT aV v fi ib mn se so sE sF tE cw cu ma pe m2) x ak (st2 sh Wl x S).2.1 (st3 sh Wl x S).1 (st1 sh Wl x S).2.1 (st1 sh Wl x S).2.2 x 0 pt (st3 sh Wl x S).2.1 pl2 sh off pile2) Q := by
        intro pl2 pile2
        obtain ⟨B8, B8'⟩ := b8
        unfold iM_rolls_b118
        rw [wp_bd2]
        refine wp_mono (w_paysM hN hA hr hg at_ wo mv mt sh (show x ≤ 60 by omega) (bl := (st1 sh Wl x S).2.2) (d := (st3 sh Wl x S).1) (p := 0) ⟨by omega, by omega⟩ ⟨by omega, by omega⟩) (fun r hr1 => ?_)
        subst hr1
        have sP : pA A at_ wo mv mt sh x (fA A at_ wo x A.c) (st1 sh Wl x S).2.2 A.c = stP sh Wl x S := by unfold stP; rw [wpe, g3]
        rw [sP, if_neg hnp, wp_bd8]
        show wp (iM_does N ak 3 (st2 sh Wl x S).2.1 ((st3 sh Wl x S).1 - stP sh Wl x S) (st1 sh Wl x S).2.1 (st1 sh Wl x S).2.2 x (0 + stP sh Wl x S) (st3 sh Wl x S).2.1 pl2 sh v fi ib mn off pile2 se so sE sF tE) _
        rw [Int.zero_add]
        unfold iM_does
        have po : aB ((st3 sh Wl x S).1 - stP sh Wl x S) + oS (fun j => S.o (j + 1)) 19 ≤ 10000000000000 := by
          have q := c5.2
          have rs := runS_b (sh := sh) (p := stP sh Wl x S) (x := x) (V := Wl.wt x) (s := ((st3 sh Wl x S).1 - stP sh Wl x S, fun j => S.o (j + 1))) (by rw [wn]; exact hWk.2.2) c4
          have rs2 := rs.2
          have q2 : aB (st4 sh Wl x S).1 + oS (st4 sh Wl x S).2 19 ≤ 172000000000 * ((x + 1 : Nat) : Int) := q
          have q3 : aB (st4 sh Wl x S).1 + oS (st4 sh Wl x S).2 19 = aB ((st3 sh Wl x S).1 - stP sh Wl x S) + oS (fun j => S.o (j + 1)) 19 := rs2
          omega
        have hO : OA x off (fun j => S.o (j + 1)) := fun j hj => by
          have := ho (j + 1) (by omega)
          rw [show x + (j + 1) = x + 1 + j by omega] at this
          exact this
        refine w_does3 hN ha hx39 hRk hWk (A.Wf ak) [] N _ _ _ _ _ _ off pile2 _ _ rfl (by omega) c4 hO po (fun pl3 pile3 off3 h3 => ?_)
        rw [r4] at h3 ⊢
        exact b134 _ _ _ _ _ _ _ _ _ _ rfl rfl rfl rfl rfl h3
      obtain ⟨B3, B3'⟩ := b2
      obtain ⟨B5, B5'⟩ := b5
      have step : ∀ (K : Int → Int → Int → Int → Int → Int → (Nat → Int) → (Nat → Int) → Option R_iM_rolls), (∀ pl2 pile2, wp (K (st2 sh Wl x S).2.1 (st3 sh Wl x S).1 (st1 sh Wl x S).2.1 (st1 sh Wl x S).2.2 (st3 sh Wl x S).2.1 pl2 off pile2) Q) → wp (iM_rolls_b98 N sh a2 A.c at_ mv mt wo aK aN aS aT v cw cu fi ib mn ma pe se so sE sF tE aV x ak x 0 pt sh K (N4 + 1 + 1 + 1 + 1) 0 0 (S.d + S.o 0) 0 0 0 pl off pile) Q := by
        intro K hK
        show wp (iM_rolls_b98_F N sh a2 A.c at_ mv mt wo aK aN aS aT v cw cu fi ib mn ma pe se so sE sF tE aV x ak x 0 pt sh K (iM_rolls_b98 N sh a2 A.c at_ mv mt wo aK aN aS aT v cw cu fi ib mn ma pe se so sE sF tE aV x ak x 0 pt sh K (N4 + 1 + 1 + 1)) 0 0 (S.d + S.o 0) 0 0 0 pl off pile) Q
        unfold iM_rolls_b98_F iM_does
        rw [if_neg (by decide), wp_bd8]
        refine w_does0 hN ha hx39 hRk hWk (A.Wf ak) [] N 7000000000000 0 0 (S.d + S.o 0) 0 0 0 pl off pile _ rfl (by omega) ⟨by omega, by omega⟩ (by omega) ⟨Int.le_refl 0, Int.le_refl 0⟩ (Or.inl rfl) (by omega) (by omega) (fun pl2 pile2 => ?_)
        rw [r1, wp_gd]
        refine ⟨jr_iff.mpr (by decide), ?_⟩
        show wp (iM_rolls_b98_F N sh a2 A.c at_ mv mt wo aK aN aS aT v cw cu fi ib mn ma pe se so sE sF tE aV x ak x 0 pt sh K (iM_rolls_b98 N sh a2 A.c at_ mv mt wo aK aN aS aT v cw cu fi ib mn ma pe se so sE sF tE aV x ak x 0 pt sh K (N4 + 1 + 1)) 1 0 (st1 sh Wl x S).1 (st1 sh Wl x S).2.1 (st1 sh Wl x S).2.2 0 pl2 off pile2) Q
        unfold iM_rolls_b98_F iM_does
        rw [if_neg (by decide), wp_bd8]
        refine w_does1 hN ha hx39 hRk hWk (A.Wf ak) [] N 7000000000000 0 0 (st1 sh Wl x S).1 (st1 sh Wl x S).2.1 (st1 sh Wl x S).2.2 0 pl2 off pile2 _ rfl (by omega) ⟨by omega, by omega⟩ (by omega) ⟨Int.le_refl 0, Int.le_refl 0⟩ b4 (by omega) (by omega) (fun pl3 pile3 => ?_)
        rw [r2, wp_gd]
        refine ⟨jr_iff.mpr (by decide), ?_⟩
        show wp (iM_rolls_b98_F N sh a2 A.c at_ mv mt wo aK aN aS aT v cw cu fi ib mn ma pe se so sE sF tE aV x ak x 0 pt sh K (iM_rolls_b98 N sh a2 A.c at_ mv mt wo aK aN aS aT v cw cu fi ib mn ma pe se so sE sF tE aV x ak x 0 pt sh K (N4 + 1)) 2 (st2 sh Wl x S).2.1 (st2 sh Wl x S).1 (st1 sh Wl x S).2.1 (st1 sh Wl x S).2.2 0 pl3 off pile3) Q
        unfold iM_rolls_b98_F iM_does
        rw [if_neg (by decide), wp_bd8]
        refine w_does2 hN ha hx39 hRk hWk (A.Wf ak) [] N 7000000000000 0 (st2 sh Wl x S).2.1 (st2 sh Wl x S).1 (st1 sh Wl x S).2.1 (st1 sh Wl x S).2.2 0 pl3 off pile3 _ rfl (by omega) ⟨by omega, by omega⟩ (by omega) ⟨Int.le_refl 0, Int.le_refl 0⟩ b4 (by omega) (by omega) (fun pl4 pile4 => ?_)
        rw [r3, wp_gd]
        refine ⟨jr_iff.mpr (by decide), ?_⟩
        show wp (iM_rolls_b98_F N sh a2 A.c at_ mv mt wo aK aN aS aT v cw cu fi ib mn ma pe se so sE sF tE aV x ak x 0 pt sh K (iM_rolls_b98 N sh a2 A.c at_ mv mt wo aK aN aS aT v cw cu fi ib mn ma pe se so sE sF tE aV x ak x 0 pt sh K N4) 3 (st2 sh Wl x S).2.1 (st3 sh Wl x S).1 (st1 sh Wl x S).2.1 (st1 sh Wl x S).2.2 (st3 sh Wl x S).2.1 pl4 off pile4) Q
        unfold iM_rolls_b98_F
        rw [if_pos (by decide)]
        exact hK pl4 pile4
      rw [← hN4] at step
      exact step _ (fun pl2 pile2 => tail pl2 pile2)
/-- the reference's roll, told anew -/
theorem w_rolls {N : Nat} {A : AW} {sh at_ wo mv mt : Int} {a2 : Nat} {aK aN aS aT aV v fi ib mn se so sE sF tE cw cu ma pe : Nat → Int} (hN : 5000 ≤ N) (hA : A.ok) (hr : AWr A aK aN aS aT aV) (hg : gwM N A cw cu ma pe) (hR : RRw A v fi ib mn se so sE sF tE) (h2 : a2 ≤ 39) {al d fa bl now paid pt pa pl sn : Int} {off pile : Nat → Int} {Q : R_iM_rolls → Prop} (hQ : ∀ bl now paid pl off pile, OA a2 off (roll sh (wld A at_ wo mv mt sh) (a2 + 1)).o → Q ((roll sh (wld A at_ wo mv mt sh) (a2 + 1)).d, (roll sh (wld A at_ wo mv mt sh) (a2 + 1)).al, (roll sh (wld A at_ wo mv mt sh) (a2 + 1)).d, (roll sh (wld A at_ wo mv mt sh) (a2 + 1)).fa, bl, now, paid, (roll sh (wld A at_ wo mv mt sh) (a2 + 1)).pd, (roll sh (wld A at_ wo mv mt sh) (a2 + 1)).pa, pl, sh, off, pile)) : wp (iM_rolls N sh a2 A.c al d fa bl at_ mv mt now paid pt pa pl sn wo aK aN aS aT v cw cu fi ib mn ma off pe pile se so sE sF tE aV) Q := by
  unfold iM_rolls iM_rolls_b2
  refine wp_zlp2 (fun (m : Nat) (x3 : Int) (u : Nat → Int) => ∃ k : Nat, k + m = 60 ∧ x3 = k ∧ ∀ j, j < k → u j = 0) ?_ N 60 0 off (by omega) ⟨0, rfl, rfl, fun j hj => absurd hj (Nat.not_lt_zero j)⟩
  intro self m x3 u ⟨k, k1, k2, k3⟩ ih
  subst k2
  unfold iM_rolls_b2_F
  rw [wp_ite]
  refine ⟨fun c => ?_, fun c => ?_⟩
  · unfold iM_rolls_b21
    exact w_rollsL hN hA hr hg hR h2 hQ (a2 + 1) 0 N al fa bl now paid pt pa pl u pile (by omega) (by omega) (fun j hj => by rw [Nat.zero_add]; exact k3 j (by omega)) (fun h => absurd rfl h)
  · have ek : (k : Int).toNat = k := rfl
    rw [wp_gd, wp_gd, ek]
    refine ⟨jb_iff.mpr (by omega), jr_iff.mpr (by omega), ih (m - 1) _ _ (by omega) ⟨k + 1, by omega, by omega, fun j hj => ?_⟩⟩
    by_cases e : j = k
    · rw [e, va_up_self]
    · rw [va_up_ne _ _ e]
      exact k3 j (by omega)
