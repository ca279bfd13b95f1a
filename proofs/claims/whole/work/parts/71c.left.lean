set_option maxHeartbeats 4000000
set_option maxRecDepth 100000
theorem w_canTouch {A : AW} (hA : A.ok) {s : Int} {a k : Nat} (h1 : 1 ≤ k) (h2 : k ≤ A.c) : iActs_canTouch k s a A.c A.sh A.te = some (if tou A s a k then 1 else 0) := by
  have hc := hA.1
  have ek : (k : Int).toNat = k := rfl
  unfold iActs_canTouch
  rw [w_isAct, if_pos ⟨h1, h2⟩, bd1_v, if_neg (by decide), gd, if_pos (jb_iff.mpr (by omega)), ek]
  by_cases c1 : (a : Int) < A.te k
  · rw [if_pos c1, if_neg (fun q => by have := q.1; omega)]
  · rw [if_neg c1]
    by_cases c2 : A.sh k = -1
    · rw [if_pos c2, if_pos ⟨by omega, Or.inl c2⟩]
    · rw [if_neg c2]
      by_cases c3 : A.sh k = s
      · rw [if_pos c3, if_pos ⟨by omega, Or.inr c3⟩]
      · rw [if_neg c3, if_neg (fun q => q.2.elim c2 c3)]
/-- left out, act k makes the debt M -/
def Lo (A : AW) (at_ s M : Int) (a k : Nat) : Prop := A.ki k ≠ 5 ∧ knw A at_ (-1) k ∧ (roll s (wld A at_ k (-1) 0 s) (a + 1)).d = M
def firstL (P : Nat → Prop) (c : Nat) (r : Int) : Prop := (r = -1 ∧ ∀ j, 1 ≤ j → j ≤ c → ¬ P j) ∨ ∃ k : Nat, r = k ∧ (1 ≤ k ∧ k ≤ c) ∧ P k ∧ ∀ j, 1 ≤ j → j < k → ¬ P j
theorem firstL_u {P : Nat → Prop} {c : Nat} {r q : Int} (h : firstL P c r) (g : firstL P c q) : r = q := by
  rcases h with ⟨h1, h2⟩ | ⟨k, h1, h2, h3, h4⟩
  · rcases g with ⟨g1, g2⟩ | ⟨j, g1, g2, g3, g4⟩
    · rw [h1, g1]
    · exact absurd g3 (h2 j g2.1 g2.2)
  · rcases g with ⟨g1, g2⟩ | ⟨j, g1, g2, g3, g4⟩
    · exact absurd h3 (g2 k h2.1 h2.2)
    · rw [h1, g1]
      by_cases e : k = j
      · rw [e]
      · by_cases l : k < j
        · exact absurd h3 (g4 k h2.1 l)
        · exact absurd g3 (h4 j g2.1 (by omega))
theorem w_leftOut {N a t1 Kt : Nat} (hN : 5000 ≤ N) (ha : a ≤ 39) {A : AW} {gr : Nat → Int} {D : DynI} {aw : Nat → Option Nat} (hC : CW A gr D aw) (hKt : Kt ≤ A.c) {s M : Int} {de1 pu1 : Nat → Int} (h1 : RlD s (wld A Kt (-1) (-1) 0 s) t1 de1 pu1) (ht1 : a < t1) (ht40 : t1 ≤ 40) (hM : (roll s (wld A Kt (-1) (-1) 0 s) (a + 1)).d ≠ M) {jd jp js jt bl db pd sh0 to0 : Int} {jst fi fp nx wr al de fa pa py pu : Nat → Int} {Q : R_iAudit_findLeftOut → Prop} (hQ : ∀ r, firstL (Lo A Kt s M a) A.c r → ∀ (jd2 jp2 js2 jt2 : Int) (jst2 fi2 fp2 nx2 wr2 : Nat → Int) (bl2 db2 pd2 sh2 to2 : Int) (al2 de2 fa2 pa2 py2 pu2 : Nat → Int), Q (r, jd2, jp2, js2, jt2, jst2, fi2, fp2, nx2, wr2, bl2, db2, pd2, sh2, to2, al2, de2, fa2, pa2, py2, pu2)) : wp (iAudit_findLeftOut N a M s t1 de1 pu1 A.c A.am A.ki A.sh A.te A.vb aw gr D Kt jd jp js jt jst fi fp nx wr bl db pd sh0 to0 al de fa pa py pu) Q := by
  have hC0 := hC
  obtain ⟨hA, hg, hw⟩ := hC
  have hc := hA.1
  have hW0 := wld_ok hA Kt (-1) (-1) 0 s
  unfold iAudit_findLeftOut iAudit_findLeftOut_b3
  refine wp_zlp21 (fun (m : Nat) (x5 jd jp js jt : Int) (jst fi fp nx wr : Nat → Int) (bl db pd sh0 to0 : Int) (al de fa pa py pu : Nat → Int) => ∃ k : Nat, Kt + 1 - k = m ∧ x5 = k ∧ 1 ≤ k ∧ k ≤ Kt + 1 ∧ ∀ j, 1 ≤ j → j < k → ¬ Lo A Kt s M a j) ?_ N Kt 1 jd jp js jt jst fi fp nx wr bl db pd sh0 to0 al de fa pa py pu (by omega) ⟨1, by omega, rfl, Nat.le_refl 1, by omega, fun j j1 j2 => by omega⟩
  intro self m x5 jd jp js jt jst fi fp nx wr bl db pd sh0 to0 al de fa pa py pu ⟨k, k1, k2, k3, k4, k5⟩ ih
  subst k2
  have ek : (k : Int).toNat = k := rfl
  unfold iAudit_findLeftOut_b3_F
  rw [wp_ite]
  refine ⟨fun c => ?_, fun c => ?_⟩
  · rw [wp_some]
    refine hQ (-1) (Or.inl ⟨rfl, fun j j1 j2 q => ?_⟩) _ _ _ _ _ _ _ _ _ _ _ _ _ _ _ _ _ _ _ _
    by_cases e : j ≤ Kt
    · exact k5 j j1 (by omega) q
    · have := q.2.1.1
      omega
  · have hk : k ≤ Kt := by omega
    have o := hA.2.1 k k3 (by omega)
    have next : ¬ Lo A Kt s M a k → ∀ (jd jp js jt : Int) (jst fi fp nx wr : Nat → Int) (bl db pd sh0 to0 : Int) (al de fa pa py pu : Nat → Int), wp (gd (jr ((k : Int) + 1)) (self ((k : Int) + 1) jd jp js jt jst fi fp nx wr bl db pd sh0 to0 al de fa pa py pu)) Q := by
      intro hn jd jp js jt jst fi fp nx wr bl db pd sh0 to0 al de fa pa py pu
      rw [wp_gd]
      refine ⟨jr_iff.mpr (by omega), ih (m - 1) _ _ _ _ _ _ _ _ _ _ _ _ _ _ _ _ _ _ _ _ _ (by omega) ⟨k + 1, by omega, by omega, by omega, by omega, fun j j1 j2 => ?_⟩⟩
      by_cases e : j = k
      · rw [e]
        exact hn
      · exact k5 j j1 (by omega)
    rw [wp_bd1, w_isKnownK hA k3 (by omega), wp_some]
    by_cases kn : (k : Int) ≤ Kt ∧ A.ki k ≠ 5 ∧ (A.vb k = 0 ∨ (Kt : Int) < A.vb k)
    · have knk : knw A Kt (-1) k := ⟨kn.1, kn.2.2, by omega⟩
      rw [if_pos kn, if_neg (by decide)]
      unfold iRoll_shireOf
      rw [wp_bd1, wp_some, wp_bd1, w_canTouch hA k3 (by omega), wp_some]
      by_cases ct : tou A s a k
      · rw [if_pos ct, if_neg (by decide), wp_gd, ek]
        refine ⟨jb_iff.mpr (by omega), ?_⟩
        obtain ⟨tk, htk⟩ : ∃ tk : Nat, A.te k = tk := ⟨(A.te k).toNat, by have := o.2.1; omega⟩
        have tka : tk ≤ a := by have := ct.1; omega
        have pre : ∀ y, y < tk → sameW (wld A Kt (-1) (-1) 0 s) (wld A Kt k (-1) 0 s) y := fun y hy => wld_wo hA k3 (by omega) (Or.inl (fun q => by have := q.1; omega))
        have b77 : ∀ f : Nat, f ≤ a → (∀ y, f < y → y ≤ a → sameW (wld A Kt k (-1) 0 s) (wld A Kt (-1) (-1) 0 s) y) → wp (iAudit_findLeftOut_b77 N a M s t1 de1 pu1 A.c A.am A.ki A.sh A.te A.vb aw gr D Kt self k tk f jd jp js jt jst fi fp nx wr bl db pd sh0 to0 al de fa pa py pu) Q := by
          intro f hf hsm
          unfold iAudit_findLeftOut_b77
          rw [wp_bd4]
          refine w_setAt hN hA (by omega) (fun fi2 fp2 nx2 wr2 hK2 => ?_)
          rw [wp_bd4]
          refine w_begin (u := tk) ht40 h1 (fun de2 pu2 hR2 => ?_)
          rw [wp_bd16]
          refine w_tellsO hN ha hC0 hW0 hK2 h1 ht1 hM hsm (show min tk t1 ≤ 40 by omega) (hR2.cg (Nat.le_refl _) (fun y hy => pre y (by omega))) (fun jd3 jp3 js3 jt3 jst3 bl3 db3 pd3 to3 al3 de3 fa3 pa3 py3 pu3 => ?_)
          show wp (if (if (roll s (wld A Kt k (-1) 0 s) (a + 1)).d = M then (1 : Int) else 0) = 0 then _ else _) Q
          by_cases cM : (roll s (wld A Kt k (-1) 0 s) (a + 1)).d = M
          · rw [if_pos cM, if_neg (by decide), wp_some]
            exact hQ k (Or.inr ⟨k, rfl, ⟨k3, by omega⟩, ⟨kn.2.1, knk, cM⟩, k5⟩) _ _ _ _ _ _ _ _ _ _ _ _ _ _ _ _ _ _ _ _
          · rw [if_neg cM, if_pos rfl]
            exact next (fun q => cM q.2.2) _ _ _ _ _ _ _ _ _ _ _ _ _ _ _ _ _ _ _ _
        rw [htk]
        by_cases c1 : A.ki k = 1
        · rw [if_pos c1]
          exact b77 a (Nat.le_refl a) (fun y y1 y2 => by omega)
        · rw [if_neg c1]
          exact b77 tk tka (fun y y1 y2 => (wld_wo hA k3 (by omega) (Or.inr ⟨c1, by omega⟩)).sy)
      · rw [if_neg ct, if_pos rfl]
        refine next (fun q => hM ?_) _ _ _ _ _ _ _ _ _ _ _ _ _ _ _ _ _ _ _ _
        rw [← q.2.2, roll_same (fun y hy => wld_wo hA k3 (show k ≤ A.c by omega) (Or.inl (fun z => ct ⟨by have := z.1; omega, z.2⟩)))]
    · rw [if_neg kn, if_pos rfl]
      exact next (fun q => kn ⟨by omega, q.1, q.2.1.2.1⟩) _ _ _ _ _ _ _ _ _ _ _ _ _ _ _ _ _ _ _ _
