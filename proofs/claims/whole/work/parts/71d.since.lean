set_option maxHeartbeats 4000000
set_option maxRecDepth 100000
/-- since which act the debt is told so -/
def sinceR (D : Nat → Int) (K : Nat) (r : Int) : Prop := (r = 0 ∧ ∀ j, j ≤ K → D j = D K) ∨ ∃ k : Nat, r = ((k + 1 : Nat) : Int) ∧ k + 1 ≤ K ∧ D k ≠ D K ∧ ∀ j, k < j → j ≤ K → D j = D K
theorem sinceR_u {D : Nat → Int} {K : Nat} {r q : Int} (h : sinceR D K r) (g : sinceR D K q) : r = q := by
  rcases h with ⟨h1, h2⟩ | ⟨k, h1, h2, h3, h4⟩
  · rcases g with ⟨g1, g2⟩ | ⟨j, g1, g2, g3, g4⟩
    · rw [h1, g1]
    · exact absurd (h2 j (by omega)) g3
  · rcases g with ⟨g1, g2⟩ | ⟨j, g1, g2, g3, g4⟩
    · exact absurd (g2 k (by omega)) h3
    · rw [h1, g1]
      by_cases e : k = j
      · rw [e]
      · by_cases l : k < j
        · exact absurd (h4 j l (by omega)) g3
        · exact absurd (g4 k (by omega) (by omega)) h3
def dA (A : AW) (s : Int) (a k : Nat) : Int := (roll s (wld A k (-1) (-1) 0 s) (a + 1)).d
theorem w_sameS {N a t1 Kt : Nat} (hN : 5000 ≤ N) (ha : a ≤ 39) {A : AW} {gr : Nat → Int} {D : DynI} {aw : Nat → Option Nat} (hC : CW A gr D aw) (hKt : Kt ≤ A.c) {s : Int} {al1 de1 fa1 pa1 py1 pu1 : Nat → Int} (h1 : RlD s (wld A Kt (-1) (-1) 0 s) t1 de1 pu1) (ht1 : a < t1) (ht40 : t1 ≤ 40) {jd jp js jt bl db pd sh0 to0 : Int} {jst fi fp nx wr al de fa pa py pu : Nat → Int} {Q : R_iAudit_sameSince → Prop} (hQ : ∀ r, sinceR (dA A s a) Kt r → ∀ (jd2 jp2 js2 jt2 : Int) (jst2 fi2 fp2 nx2 wr2 : Nat → Int) (bl2 db2 pd2 sh2 to2 : Int) (al2 de2 fa2 pa2 py2 pu2 : Nat → Int), Q (r, jd2, jp2, js2, jt2, jst2, fi2, fp2, nx2, wr2, bl2, db2, pd2, sh2, to2, al2, de2, fa2, pa2, py2, pu2)) : wp (iAudit_sameSince N a s t1 al1 de1 fa1 pa1 py1 pu1 A.c A.am A.ki A.sh A.te A.vb aw gr D Kt jd jp js jt jst fi fp nx wr bl db pd sh0 to0 al de fa pa py pu) Q := by
  obtain ⟨hA, hg, hw⟩ := hC
  have hc := hA.1
  have e1 := (h1 a ht1).1
  unfold iAudit_sameSince
  rw [wp_bd1, w_entry0 ha, wp_some, wp_gd, wp_bd4, e1]
  refine ⟨jr_iff.mpr (by omega), ?_⟩
  show wp (iRoll_beginLike ((a + 1 : Nat) : Int) s t1 de1 pu1 sh0 to0 de pu) _
  refine w_begin (u := a + 1) ht40 h1 (fun de2 pu2 hR2 => ?_)
  rw [show min (a + 1) t1 = a + 1 by omega] at hR2 ⊢
  show wp (iAudit_sameSince_b24 N a s t1 al1 de1 fa1 pa1 py1 pu1 A.c A.am A.ki A.sh A.te A.vb aw gr D Kt (dA A s a Kt) s N Kt jd jp js jt jst fi fp nx wr bl db pd ((a + 1 : Nat) : Int) al de2 fa pa py pu2) Q
  unfold iAudit_sameSince_b24
  refine wp_zlp20 (fun (m : Nat) (x5 jd jp js jt : Int) (jst fi fp nx wr : Nat → Int) (bl db pd to : Int) (al de fa pa py pu : Nat → Int) => ∃ k t : Nat, k = m ∧ x5 = k ∧ k ≤ Kt ∧ to = t ∧ t ≤ a + 1 ∧ RlD s (wld A k (-1) (-1) 0 s) t de pu ∧ ∀ j, k ≤ j → j ≤ Kt → dA A s a j = dA A s a Kt) ?_ N Kt Kt jd jp js jt jst fi fp nx wr bl db pd ((a + 1 : Nat) : Int) al de2 fa pa py pu2 (by omega) ⟨Kt, a + 1, rfl, rfl, Nat.le_refl _, rfl, Nat.le_refl _, hR2, fun j j1 j2 => by rw [show j = Kt by omega]⟩
  intro self m x5 jd jp js jt jst fi fp nx wr bl db pd to al de fa pa py pu ⟨k, t, k1, k2, k3, k4, k5, k6, k7⟩ ih
  subst k1 k2 k4
  unfold iAudit_sameSince_b24_F
  rw [wp_ite]
  refine ⟨fun c => ?_, fun c => ?_⟩
  · have k0 : k = 0 := by omega
    subst k0
    rw [wp_some]
    exact hQ 0 (Or.inl ⟨rfl, fun j hj => k7 j (Nat.zero_le _) hj⟩) _ _ _ _ _ _ _ _ _ _ _ _ _ _ _ _ _ _ _ _
  · obtain ⟨p, rfl⟩ : ∃ p, k = p + 1 := ⟨k - 1, by omega⟩
    have ek : ((p + 1 : Nat) : Int).toNat = p + 1 := rfl
    have em : ((p + 1 : Nat) : Int) + (-1) = p := by omega
    have em2 : ((p + 1 : Nat) : Int) - 1 = p := by omega
    have o := hA.2.1 (p + 1) (by omega) (by omega)
    have lw : ∀ y, ¬ tou A s y (p + 1) → sameW (wld A ((p + 1 : Nat) : Int) (-1) (-1) 0 s) (wld A p (-1) (-1) 0 s) y := fun y hy => by
      have := wld_at hA (s := s) (k := p + 1) (by omega) (by omega) hy
      rw [em2] at this
      exact this
    have next : dA A s a p = dA A s a Kt → ∀ (t : Nat) (jd jp js jt : Int) (jst fi fp nx wr : Nat → Int) (bl db pd : Int) (al de fa pa py pu : Nat → Int), t ≤ a + 1 → RlD s (wld A p (-1) (-1) 0 s) t de pu → wp (gd (jr (((p + 1 : Nat) : Int) + (-1))) (self (((p + 1 : Nat) : Int) + (-1)) jd jp js jt jst fi fp nx wr bl db pd t al de fa pa py pu)) Q := by
      intro hd t jd jp js jt jst fi fp nx wr bl db pd al de fa pa py pu ht hR
      rw [wp_gd, em]
      refine ⟨jr_iff.mpr (by omega), ih p _ _ _ _ _ _ _ _ _ _ _ _ _ _ _ _ _ _ _ _ (by omega) ⟨p, t, rfl, rfl, by omega, rfl, ht, hR, fun j j1 j2 => ?_⟩⟩
      by_cases e : j = p
      · rw [e]
        exact hd
      · exact k7 j (by omega) j2
    unfold iRoll_shireOf
    rw [wp_bd1, wp_some, wp_bd1, w_canTouch hA (by omega) (by omega), wp_some]
    by_cases ct : tou A s a (p + 1)
    · rw [if_pos ct, if_neg (by decide), wp_gd, wp_bd4, em2]
      refine ⟨jr_iff.mpr (by omega), ?_⟩
      refine w_setAt hN hA (by omega) (fun fi2 fp2 nx2 wr2 hK2 => ?_)
      rw [wp_gd, ek]
      refine ⟨jb_iff.mpr (by omega), ?_⟩
      obtain ⟨tk, htk⟩ : ∃ tk : Nat, A.te (p + 1) = tk := ⟨(A.te (p + 1)).toNat, by have := o.2.1; omega⟩
      have eb : jmax 0 (jmin (tk : Int) (t : Int)) = ((min tk t : Nat) : Int) := by
        unfold jmax jmin
        split <;> split <;> omega
      unfold iRoll_goBack
      rw [wp_bd1, wp_some, htk, eb, wp_bd15]
      refine w_goTo (a := a) hN ha hA hK2 hg hw (show min tk t ≤ 40 by omega) (k6.cg (Nat.min_le_right _ _) (fun y hy => lw y (fun q => by have := q.1; omega))) (fun jd3 jp3 js3 jt3 jst3 bl3 db3 pd3 tl3 al3 de3 fa3 pa3 py3 pu3 q1 q2 q3 q4 => ?_)
      have q1' : tl3 = a + 1 := by
        rw [q1]
        split <;> omega
      subst q1'
      rw [wp_bd1]
      show wp (iRoll_entry N a 0 al3 de3 fa3 pa3 py3 pu3) _
      rw [w_entry0 ha, wp_some, (q2 a (Nat.lt_succ_self a)).1]
      show wp (if dA A s a p = dA A s a Kt then _ else _) Q
      by_cases cd : dA A s a p = dA A s a Kt
      · rw [if_pos cd]
        exact next cd (a + 1) _ _ _ _ _ _ _ _ _ _ _ _ _ _ _ _ _ _ (Nat.le_refl _) q2
      · rw [if_neg cd, wp_some]
        exact hQ _ (Or.inr ⟨p, rfl, by omega, cd, fun j j1 j2 => k7 j (by omega) j2⟩) _ _ _ _ _ _ _ _ _ _ _ _ _ _ _ _ _ _ _ _
    · rw [if_neg ct, if_pos rfl]
      have nt : ∀ y, y ≤ a → ¬ tou A s y (p + 1) := fun y hy q => ct ⟨by have := q.1; omega, q.2⟩
      have ed : dA A s a p = dA A s a (p + 1) := by
        show (roll s (wld A p (-1) (-1) 0 s) (a + 1)).d = (roll s (wld A ((p + 1 : Nat) : Int) (-1) (-1) 0 s) (a + 1)).d
        rw [roll_same (fun y hy => (lw y (nt y (by omega))).sy)]
      exact next (by rw [ed]; exact k7 (p + 1) (Nat.le_refl _) k3) t _ _ _ _ _ _ _ _ _ _ _ _ _ _ _ _ _ _ k5 (k6.cg (Nat.le_refl _) (fun y hy => lw y (nt y (by omega))))
